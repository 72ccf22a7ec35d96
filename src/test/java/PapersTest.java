/** Promises 24 to 28 and 31: lose, find, date, grant, cart, trouble. */
public final class PapersTest {
    private static final String TEXT = "place a;place b;goods w;goods v;bridge x by a to b long 2;bridge y by a to b long 9;"
        + "man m of a since 5;man o of b since 0;take t at y on v coin 7 day 10 to 12;take u at x on all coin 1 day 0;"
        + "free f for b on all trade day 11;free h for a on w own day 3 to 23;free i for a on v both day 999;"
        + "as s for b like a day 20 to 21;renew t less day 25;renew h same day 1;renew t same day 4;lost h;lost s copied;"
        + "law l older own alike copies;law n older own alike papers;"
        + "cart k of o with v trade loads 4 from b to a day 30;cart q of m with w own loads 99 from a to b day 999";

    private static void row(TollBars x, int g, int... want) {
        for (int what = 0; what < 7; what++) {
            Check.due("grant(" + g + ", " + what + ")", x.grant(g, what), want[what]);
        }
        Check.due("grant(" + g + ", 7)", x.grant(g, 7), -1);
        Check.due("grant(" + g + ", -1)", x.grant(g, -1), -1);
    }

    private static void told() {
        TollBars x = Check.sound(TEXT);
        row(x, 0, 10, 12, 0, 1, 1, 7, 2);
        row(x, 1, 0, 0, 0, 0, -2, 1, 0);
        row(x, 6, 11, 11, 0, 1, -2, 1, 0);
        row(x, 7, 3, 23, 1, 0, 0, 0, 1);
        row(x, 8, 999, 999, 0, 0, 1, 2, 0);
        row(x, 12, 20, 21, 2, 1, 0, 0, 0);
        int[] none = {-1, 2, 5, 9, 11, 13, 15, 16, Integer.MAX_VALUE, Integer.MIN_VALUE};
        for (int g : none) {
            Check.due("grant(" + g + ", 0)", x.grant(g, 0), -1);
        }
        int[][] carts = {{1, 1, 1, 4, 1, 0, 30}, {0, 0, 0, 99, 0, 1, 999}};
        for (int c = 0; c < 2; c++) {
            for (int what = 0; what < 7; what++) {
                Check.due("cart(" + c + ", " + what + ")", x.cart(c, what), carts[c][what]);
            }
            Check.due("cart what 7", x.cart(c, 7), -1);
            Check.due("cart what -1", x.cart(c, -1), -1);
        }
        Check.due("cart 2", x.cart(2, 0), -1);
        Check.due("cart -1", x.cart(-1, 6), -1);
        Check.due("cart max", x.cart(Integer.MAX_VALUE, 6), -1);
        Check.due("grant and cart leave trouble", x.trouble(), 0);
    }

    private static void done(String call, TollBars x, boolean got) {
        Check.due(call, got, true);
        Check.due(call + ": trouble", x.trouble(), 0);
    }

    private static void refuse(String call, TollBars x, boolean got, int trouble) {
        Check.due(call, got, false);
        Check.due(call + ": trouble", x.trouble(), trouble);
    }

    private static void lostAndFound() {
        TollBars x = Check.sound(TEXT);
        Check.due("t in force", x.force(0, 30, 0), 1);
        done("lose t", x, x.lose(0, false));
        Check.due("t lost", x.grant(0, 2), 1);
        Check.due("t not in force", x.force(0, 30, 0), 0);
        refuse("lose t again", x, x.lose(0, true), 5);
        Check.due("t lost as before", x.grant(0, 2), 1);
        done("find t", x, x.find(0));
        Check.due("t found", x.grant(0, 2), 0);
        Check.due("t in force again", x.force(0, 30, 0), 1);
        refuse("find t again", x, x.find(0), 5);
        done("lose t, copied", x, x.lose(0, true));
        Check.due("t copied", x.grant(0, 2), 2);
        Check.due("t in force by copies", x.force(0, 30, 0), 1);
        Check.due("t not by papers", x.force(0, 30, 1), 0);
        refuse("lose h, lost by the text", x, x.lose(7, true), 5);
        done("find h", x, x.find(7));
        done("find s", x, x.find(12));
        // More may be lost than the text has room for.
        int[] all = {1, 6, 7, 8, 12};
        for (int g : all) {
            done("lose " + g, x, x.lose(g, false));
        }
        int[] none = {-1, 2, 5, 9, 11, 13, 16, Integer.MAX_VALUE, Integer.MIN_VALUE};
        for (int g : none) {
            refuse("lose " + g, x, x.lose(g, false), 1);
            refuse("find " + g, x, x.find(g), 1);
            refuse("date " + g, x, x.date(g, 5), 1);
            refuse("date and day " + g, x, x.date(g, 1000), 1);
        }
    }

    private static void dates() {
        TollBars x = Check.sound(TEXT);
        done("date t", x, x.date(0, 40));
        row(x, 0, 40, 40, 0, 1, 1, 7, 2);
        Check.due("t not in force on 39", x.force(0, 39, 0), 0);
        Check.due("t in force on 40", x.force(0, 40, 0), 1);
        done("date t again", x, x.date(0, 0));
        Check.due("t on 0", x.force(0, 0, 0), 1);
        done("date u", x, x.date(1, 999));
        refuse("date u 1000", x, x.date(1, 1000), 2);
        refuse("date u -1", x, x.date(1, -1), 2);
        Check.due("u as before", x.grant(1, 0), 999);
        done("date a lost one", x, x.date(7, 4));
        Check.due("it stays lost", x.grant(7, 2), 1);
        done("date s", x, x.date(12, 2));
        Check.due("s leads on day 2", x.chain(1, 2, 0, 0), 0);
    }

    /** Only calls with a number for refusals change trouble. */
    private static void troubles() {
        TollBars x = Check.sound(TEXT);
        refuse("a refusal", x, x.lose(3, true), 1);
        x.grant(0, 0);
        x.grant(99, 0);
        x.cart(0, 0);
        x.cart(99, 0);
        x.size(0);
        x.size(99);
        x.stop(0);
        x.length();
        x.fault();
        x.where();
        x.feed(0, 0, 0, 0, 0);
        Check.led(x, 0);
        Check.due("trouble stays", x.trouble(), 1);
        Check.due("trouble asked again", x.trouble(), 1);
        x.coin(0);
        Check.due("trouble goes", x.trouble(), 0);
    }

    public static void main(String[] args) {
        told();
        lostAndFound();
        dates();
        troubles();
        Check.end("PapersTest");
    }
}
