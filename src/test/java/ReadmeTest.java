import java.io.ByteArrayOutputStream;
import java.io.IOException;
import java.io.PrintStream;
import java.lang.reflect.Method;
import java.lang.reflect.Modifier;
import java.nio.charset.StandardCharsets;
import java.nio.file.Files;
import java.nio.file.Path;

/** README.md holds the example as it stands in Example.java, with what it prints, and names every call and every test. */
public final class ReadmeTest {
    private static String printed() {
        PrintStream console = System.out;
        ByteArrayOutputStream bytes = new ByteArrayOutputStream();
        System.setOut(new PrintStream(bytes, true, StandardCharsets.UTF_8));
        Example.main(new String[0]);
        System.setOut(console);
        return bytes.toString(StandardCharsets.UTF_8).replace("\r\n", "\n");
    }

    private static String block(String readme, String sort) {
        int start = readme.indexOf("```" + sort + "\n");
        int end = start < 0 ? -1 : readme.indexOf("```\n", start + 3);
        return end < 0 ? "" : readme.substring(start + sort.length() + 4, end);
    }

    private static void same(String what, String got, String want) {
        Check.due(what + (got.equals(want) ? "" : ": '" + got + "', not '" + want + "'"), got.equals(want), true);
    }

    private static void namesEveryCall(String readme) {
        for (Method method : TollBars.class.getDeclaredMethods()) {
            if (Modifier.isPublic(method.getModifiers())) {
                Check.due(method.getName() + " is named", readme.contains("| `" + method.getName() + "("), true);
            }
        }
    }

    private static void namesEveryTest(String readme) throws IOException {
        try (var files = Files.newDirectoryStream(Path.of("src/test/java"), "*Test.java")) {
            for (Path file : files) {
                String name = file.getFileName().toString().replace(".java", "");
                Check.due(name + " is named", readme.contains("| " + name + " |"), true);
            }
        }
    }

    public static void main(String[] args) throws IOException {
        String readme = Files.readString(Path.of("README.md"));
        same("the example", block(readme, "java"), Files.readString(Path.of("src/test/java/Example.java")));
        same("what it prints", block(readme, "text"), printed());
        namesEveryCall(readme);
        namesEveryTest(readme);
        Check.end("ReadmeTest");
    }
}
