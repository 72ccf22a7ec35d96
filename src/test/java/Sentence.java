import java.io.IOException;
import java.nio.file.Files;
import java.nio.file.Path;
import java.util.Set;
import java.util.TreeSet;

/**
 * The sentence of the document that the next answers hold to. Its words must stand in the document, under the
 * heading that is named, so that a test can't speak of a sentence that isn't there.
 */
final class Sentence {
    private static final Path DOCUMENT = Path.of("../shared/DOC.md");
    private static final String[] TERMS = {"I. ", "II. ", "III. ", "IV. "};
    private static final Set<String> spoken = new TreeSet<>();
    private static String document;

    private Sentence() {
    }

    static void promise(int number, String words) {
        holds("Promise " + number, section("## Promise " + number + ":", "\n## "), words);
    }

    /** Terms are numbered from 1 to 4. */
    static void term(int number, String words) {
        String end = number < TERMS.length ? "\n" + TERMS[number] : "\nThe constants";
        holds("Terms " + TERMS[number - 1].trim(), section("\n" + TERMS[number - 1], end), words);
    }

    static void constant(String words) {
        holds("The constants", section("\nThe constants", "\n\n"), words);
    }

    static void preamble(String words) {
        holds("What it is", section("## What it is", "\n## "), words);
    }

    private static void holds(String where, String section, String words) {
        spoken.add(where);
        Check.heading = where + " (\"" + words + "\")";
        // Without the document at hand the answers are looked at all the same.
        if (!document().isEmpty()) {
            Check.due("these words stand in the document", plain(section).contains(plain(words)), true);
        }
    }

    private static String plain(String text) {
        return text.replaceAll("\\s+", " ");
    }

    private static String section(String start, String end) {
        String all = document();
        int from = all.indexOf(start);
        int to = from < 0 ? -1 : all.indexOf(end, from + start.length());
        return from < 0 ? "" : all.substring(from, to < 0 ? all.length() : to);
    }

    private static String document() {
        if (document == null) {
            try {
                document = Files.readString(DOCUMENT);
            } catch (IOException missing) {
                System.out.println(DOCUMENT + " isn't here: the words of sentences aren't looked up");
                document = "";
            }
        }
        return document;
    }

    /** Every promise and every term has been spoken of. */
    static void allSpoken() {
        Check.heading = "";
        for (int number = 1; number <= 31; number++) {
            Check.due("tests of Promise " + number, spoken.contains("Promise " + number), true);
        }
        for (String term : TERMS) {
            Check.due("tests of Terms " + term, spoken.contains("Terms " + term.trim()), true);
        }
    }
}
