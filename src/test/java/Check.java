import java.nio.charset.StandardCharsets;
import java.util.Arrays;

/** What the tests share: feeding a text, comparing answers, and the end of a test. */
final class Check {
    private static int asked = 0;
    private static int wrong = 0;
    /** The sentence of the document that the answers hold to, told ahead of a wrong one. */
    static String heading = "";

    private Check() {
    }

    static void due(String call, long got, long want) {
        asked++;
        if (got != want) {
            wrong++;
            System.out.println((heading.isEmpty() ? "" : heading + ": ") + call + " answered " + got + ", due is " + want);
        }
    }

    static void due(String call, boolean got, boolean want) {
        due(call, got ? 1 : 0, want ? 1 : 0);
    }

    /** Feeds a text, with blanks up to a multiple of twenty bytes, and answers the latest feed's answer. */
    static int feed(TollBars x, String text) {
        byte[] bytes = text.getBytes(StandardCharsets.ISO_8859_1);
        int answer = x.size(11);
        for (int at = 0; at < bytes.length; at += 20) {
            byte[] twenty = new byte[20];
            Arrays.fill(twenty, (byte) ' ');
            System.arraycopy(bytes, at, twenty, 0, Math.min(20, bytes.length - at));
            answer = x.feed(four(twenty, 0), four(twenty, 4), four(twenty, 8), four(twenty, 12), four(twenty, 16));
        }
        return answer;
    }

    private static int four(byte[] b, int at) {
        return (b[at] & 255) << 24 | (b[at + 1] & 255) << 16 | (b[at + 2] & 255) << 8 | b[at + 3] & 255;
    }

    /** Makes a realm of the text on an object whose tape is empty. */
    static int realm(TollBars x, String text) {
        feed(x, text);
        return x.realm(text.length());
    }

    /** A new object with a realm that must be sound. */
    static TollBars sound(String text) {
        TollBars x = new TollBars();
        int places = realm(x, text);
        if (places < 2) {
            due("realm of " + text + " (fault " + x.fault() + " at " + x.where() + ")", places, 2);
        }
        return x;
    }

    /** The i-th bridge of the latest way, or -7 where led() throws. */
    static int led(TollBars x, int i) {
        try {
            return x.led(i);
        } catch (java.util.NoSuchElementException none) {
            return -7;
        }
    }

    /** A text is refused with this fault at this place. */
    static void faulty(String text, int fault, int place) {
        TollBars x = new TollBars();
        String call = "realm of '" + text + "'";
        due(call, realm(x, text), TollBars.NONE);
        due(call + ": trouble()", x.trouble(), 4);
        due(call + ": fault()", x.fault(), fault);
        due(call + ": where()", x.where(), place);
        due(call + ": size(0)", x.size(0), 0);
        due(call + ": size(11)", x.size(11), 0);
    }

    static void end(String test) {
        System.out.println(test + ": " + asked + " answers looked at, " + wrong + " not as due");
        if (wrong != 0 || asked == 0) {
            System.exit(1);
        }
    }
}
