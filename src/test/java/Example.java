import java.nio.charset.StandardCharsets;
import java.util.Arrays;

/** The example of README.md: a realm is told, and what a cart owes is found by two laws. */
public final class Example {
    private static final String TEXT = "place hull; place york; place selby; goods wool;"
        + "road hull to york long 9; bridge ouse by hull to selby long 2; road selby to york long 2;"
        + "man adam of hull since 5; take murage at ouse on all coin 3 day 10 to 12;"
        + "free charter for hull on wool both day 11; law elder older own alike copies;"
        + "law newer later own alike copies; cart wain of adam with wool trade loads 4 from hull to york day 30";

    /** Twenty bytes a call, the last ones filled up with blanks. */
    private static void feed(TollBars bars, String text) {
        byte[] bytes = Arrays.copyOf(text.getBytes(StandardCharsets.US_ASCII), (text.length() + 19) / 20 * 20);
        Arrays.fill(bytes, text.length(), bytes.length, (byte) ' ');
        for (int at = 0; at < bytes.length; at += 20) {
            int[] five = new int[5];
            for (int i = 0; i < 20; i++) {
                five[i / 4] = five[i / 4] << 8 | bytes[at + i];
            }
            bars.feed(five[0], five[1], five[2], five[3], five[4]);
        }
    }

    public static void main(String[] args) {
        TollBars bars = new TollBars();
        feed(bars, TEXT);
        System.out.println("places: " + bars.realm(TEXT.length()));
        for (int law = 0; law < bars.size(9); law++) {
            System.out.println("law " + law + ": at the bridge " + bars.owes(0, 0, 30, law)
                + ", least " + bars.sure(0, 0, 30, law, false) + ", most " + bars.sure(0, 0, 30, law, true)
                + "; on the way " + bars.way(0, law) + ", length " + bars.length() + ", second place " + bars.stop(1));
        }
        System.out.println("a bridge in Wales: " + bars.owes(0, 1, 30, 0) + ", trouble " + bars.trouble());
        feed(bars, "place hull; place hull");
        System.out.println("hull twice: " + bars.realm(22) + ", trouble " + bars.trouble()
            + ", fault " + bars.fault() + " at " + bars.where());
    }
}
