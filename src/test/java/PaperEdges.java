/** Papers: promises 24 to 28 and 31, with what Terms IV says of trouble. */
final class PaperEdges {
    private static final int MIN = Integer.MIN_VALUE;
    private static final int MAX = Integer.MAX_VALUE;
    private static final String TEXT = "place a;place b;place c;goods w;goods v;bridge x by a to b long 2;"
        + "bridge y by a to b long 9;man m of a since 0;take t at y on v coin 99 day 0 to 20;take u at x on all coin 1 day 999;"
        + "free f for c on all trade day 979 to 999;free h for a on v own day 3;free i for b on w both day 30 to 30;"
        + "as s for b like c day 5 to 25;as z for c like a day 7;renew t less day 25;renew h same day 1;renew t same day 4;"
        + "law l older own alike copies;law n older own alike papers;"
        + "cart k of m with v trade loads 99 from b to c day 0;cart q of m with w own loads 1 from a to b day 999";

    private PaperEdges() {
    }

    static void all() {
        losing();
        finding();
        lostByText();
        moreThanFour();
        dating();
        datesChangeAnswers();
        grants();
        carts();
        troubles();
        troubleStays();
    }

    private static void answers(String call, TollBars x, boolean got, int trouble) {
        Check.due(call, got, trouble == 0);
        Check.due(call + ": trouble()", x.trouble(), trouble);
    }

    private static final int[] THERE = {0, 1, 6, 7, 8, 12, 13};
    private static final int[] NOT_THERE = {-1, 2, 5, 9, 11, 14, 15, 16, MIN, MAX};

    private static void losing() {
        Sentence.promise(24, "A GRANT is lost from now on (copied, or not): true; false: 1; 5 (it is lost).");
        TollBars x = Check.sound(TEXT);
        for (int g : THERE) {
            boolean copied = g % 2 == 0;
            answers("lose " + g, x, x.lose(g, copied), 0);
            Check.due("grant(" + g + ", 2)", x.grant(g, 2), copied ? 2 : 1);
            answers("lose " + g + " again", x, x.lose(g, copied), 5);
            answers("lose " + g + " otherwise", x, x.lose(g, !copied), 5);
            Check.due("as it was lost", x.grant(g, 2), copied ? 2 : 1);
            Check.due("in force by copies", x.force(g, 999, 0), copied ? 1 : 0);
            Check.due("in force by papers", x.force(g, 999, 1), 0);
        }
        for (int g : NOT_THERE) {
            answers("lose " + g, x, x.lose(g, true), 1);
        }
    }

    private static void finding() {
        Sentence.promise(25, "A lost one is found: true; false: 1; 5 (it isn't lost).");
        TollBars x = Check.sound(TEXT);
        for (int g : THERE) {
            answers("find " + g, x, x.find(g), 5);
            for (int i = 0; i < 2; i++) {
                answers("lose " + g, x, x.lose(g, i == 1), 0);
                answers("find " + g, x, x.find(g), 0);
                Check.due("grant(" + g + ", 2)", x.grant(g, 2), 0);
                Check.due("in force by papers", x.force(g, 999, 1), 1);
                answers("find " + g + " again", x, x.find(g), 5);
            }
        }
        for (int g : NOT_THERE) {
            answers("find " + g, x, x.find(g), 1);
        }
    }

    private static void lostByText() {
        Sentence.promise(25, "A lost one is found: true");
        TollBars x = Check.sound(TEXT.replace("law l", "lost t;lost s copied;law l"));
        answers("lose one that the text lost", x, x.lose(0, true), 5);
        answers("lose one that the text lost, copied", x, x.lose(12, false), 5);
        Check.due("grant(0, 2)", x.grant(0, 2), 1);
        Check.due("grant(12, 2)", x.grant(12, 2), 2);
        answers("find t", x, x.find(0), 0);
        answers("find s", x, x.find(12), 0);
        answers("lose t, copied", x, x.lose(0, true), 0);
        Check.due("grant(0, 2)", x.grant(0, 2), 2);
    }

    private static void moreThanFour() {
        Sentence.promise(24, "A GRANT is lost from now on (copied, or not): true");
        TollBars x = Check.sound(TEXT);
        for (int g : THERE) {
            answers("lose " + g + ", though the text has room for four", x, x.lose(g, false), 0);
        }
        Check.due("coin", x.coin(0), 0);
    }

    private static void dating() {
        Sentence.promise(26, "A GRANT's DAY is known from now on: true; false: 1; 2 (0 .. 999).");
        TollBars x = Check.sound(TEXT);
        int[] wrong = {-1, 1000, MIN, MAX};
        int[] right = {0, 1, 998, 999};
        for (int g : THERE) {
            int first = x.grant(g, 0);
            int last = x.grant(g, 1);
            for (int day : wrong) {
                answers("date(" + g + ", " + day + ")", x, x.date(g, day), 2);
                Check.due("the first day stays", x.grant(g, 0), first);
                Check.due("the last day stays", x.grant(g, 1), last);
            }
            for (int day : right) {
                answers("date(" + g + ", " + day + ")", x, x.date(g, day), 0);
                Check.due("the first day", x.grant(g, 0), day);
                Check.due("the last day", x.grant(g, 1), day);
                Check.due("in force on it", x.force(g, day, 0), 1);
                Check.due("in force ahead of it", x.force(g, Math.max(0, day - 1), 0), day == 0 ? 1 : 0);
            }
        }
        for (int g : NOT_THERE) {
            answers("date(" + g + ", 5)", x, x.date(g, 5), 1);
            answers("date(" + g + ", 1000)", x, x.date(g, 1000), 1);
        }
    }

    private static void datesChangeAnswers() {
        Sentence.promise(26, "A GRANT's DAY is known from now on");
        TollBars x = Check.sound(TEXT);
        // A day outside the span that was told is taken too, and stays for all laws.
        answers("date(6, 2)", x, x.date(6, 2), 0);
        Check.due("on 2", x.force(6, 2, 1), 1);
        answers("date a lost one", x, x.lose(12, true) && x.date(12, 1), 0);
        Check.due("it stays lost", x.grant(12, 2), 2);
        Check.due("a copy of day 1", x.chain(1, 1, 0, 0), 2);
        Check.due("renewals stay", x.date(0, 3) ? x.grant(0, 6) : -1, 2);
        Check.due("realm again", Check.realm(x, TEXT), 3);
        Check.due("of a new realm the day is the text's", x.grant(6, 0) * 1000 + x.grant(6, 1), 979999);
    }

    private static void grants() {
        Sentence.promise(27, "Of a GRANT 0 the first DAY, 1 the last, 2 whether it is lost (1; 2: copied), 3 its bridge or PLACE, 4 its "
            + "goods (-2 all; of an as the PLACE it is like), 5 coin, or USE (0 own, 1 trade, 2 both; of an as 0), 6 how many "
            + "RENEWALS.");
        int[][] rows = {{0, 20, 0, 1, 1, 99, 2}, {999, 999, 0, 0, -2, 1, 0}, {979, 999, 0, 2, -2, 1, 0}, {3, 3, 0, 0, 1, 0, 1},
            {30, 30, 0, 1, 0, 2, 0}, {5, 25, 0, 1, 2, 0, 0}, {7, 7, 0, 2, 0, 0, 0}};
        TollBars x = Check.sound(TEXT);
        for (int i = 0; i < THERE.length; i++) {
            for (int what = 0; what < 7; what++) {
                Check.due("grant(" + THERE[i] + ", " + what + ")", x.grant(THERE[i], what), rows[i][what]);
            }
        }
        Sentence.promise(27, "NONE for none such.");
        int[] others = {-1, 7, 8, MIN, MAX};
        for (int what : others) {
            for (int g : THERE) {
                Check.due("grant(" + g + ", " + what + ")", x.grant(g, what), -1);
            }
        }
        for (int g : NOT_THERE) {
            for (int what = -1; what < 8; what++) {
                Check.due("grant(" + g + ", " + what + ")", x.grant(g, what), -1);
            }
        }
        Check.due("grant() tells no number, so trouble() stays", x.trouble(), 0);
        TollBars four = Check.sound("place a;place b;free f for a on all own day 1;renew f less day 999;renew f same day 0;"
            + "renew f more day 5;renew f more day 5;law l older own alike copies");
        Check.due("four renewals, those that don't count yet too", four.grant(6, 6), 4);
        Check.due("its goods and use are those told", four.grant(6, 4) * 10 + four.grant(6, 5), -20);
    }

    private static void carts() {
        Sentence.promise(28, "Of a cart 0 its man, 1 goods, 2 FOR (0 own, 1 trade), 3 loads, 4 from, 5 to, 6 day.");
        TollBars x = Check.sound(TEXT);
        int[][] rows = {{0, 1, 1, 99, 1, 2, 0}, {0, 0, 0, 1, 0, 1, 999}};
        for (int c = 0; c < 2; c++) {
            for (int what = 0; what < 7; what++) {
                Check.due("cart(" + c + ", " + what + ")", x.cart(c, what), rows[c][what]);
            }
        }
        Sentence.promise(28, "NONE for none such.");
        int[] others = {-1, 7, 8, MIN, MAX};
        for (int what : others) {
            Check.due("cart(0, " + what + ")", x.cart(0, what), -1);
            Check.due("cart(1, " + what + ")", x.cart(1, what), -1);
        }
        int[] none = {-1, 2, 5, 6, MIN, MAX};
        for (int c : none) {
            for (int what = -1; what < 8; what++) {
                Check.due("cart(" + c + ", " + what + ")", x.cart(c, what), -1);
            }
        }
        Check.due("cart() tells no number, so trouble() stays", x.trouble(), 0);
        StringBuilder six = new StringBuilder("place a;place b;goods w;law l older own alike copies");
        for (int i = 0; i < 6; i++) {
            six.append(";man m" + (char) ('a' + i) + " of a since 0;cart k" + (char) ('a' + i) + " of m" + (char) ('a' + i)
                + " with w own loads " + (10 + i) + " from a to b day " + i);
        }
        TollBars y = Check.sound(six.toString());
        for (int i = 0; i < 6; i++) {
            Check.due("man of " + i, y.cart(i, 0), i);
            Check.due("loads of " + i, y.cart(i, 3), 10 + i);
            Check.due("day of " + i, y.cart(i, 6), i);
        }
        Check.due("a seventh", y.cart(6, 0), -1);
    }

    /** One call for each number of trouble, and back to 0. */
    private static void troubles() {
        Sentence.promise(31, "TROUBLE.");
        TollBars x = Check.sound(TEXT.replace("law l", "take p at x on w coin 1 day 0 to 20;free r for a on w own day 0 to 20;"
            + "law l"));
        Check.due("coin", x.coin(0) >= 0, true);
        Check.due("0 it wasn't", x.trouble(), 0);
        Check.due("coin(2)", x.coin(2), -1);
        Check.due("1 there is none such", x.trouble(), 1);
        Check.due("force", x.force(0, 1000, 0), -1);
        Check.due("2 a number", x.trouble(), 2);
        Check.due("sure", x.sure(0, 0, 0, 0, true), -1);
        Check.due("3 no room", x.trouble(), 3);
        Check.due("realm(0)", x.realm(0), -1);
        Check.due("4 a fault", x.trouble(), 4);
        Check.due("find", x.find(0), false);
        Check.due("5 not so", x.trouble(), 5);
        Check.due("way", x.way(0, 0), -1);
        Check.due("6 there is no way", x.trouble(), 6);
        Check.due("trouble() asks and changes nothing", x.trouble(), 6);
        Check.due("way of the other", x.way(1, 0) >= 0, true);
        Check.due("0 again", x.trouble(), 0);
    }

    private static void troubleStays() {
        Sentence.term(4, "TROUBLE of the latest call that may be refused (those of which a number is told here)");
        TollBars x = Check.sound(TEXT);
        Check.due("find", x.find(0), false);
        Runnable[] calls = {() -> x.feed(0, 0, 0, 0, 0), x::fault, x::where, () -> x.stop(0), () -> x.stop(-1), x::length,
            () -> x.grant(0, 0), () -> x.grant(-1, 0), () -> x.cart(0, 0), () -> x.cart(-1, 0), () -> Check.led(x, 0),
            () -> x.size(0), () -> x.size(-1), x::trouble};
        for (int i = 0; i < calls.length; i++) {
            calls[i].run();
            Check.due("trouble() behind call " + i, x.trouble(), 5);
        }
        for (int i = 1; i < 50; i++) {
            x.feed(0, 0, 0, 0, 0);
        }
        Check.due("feed() of a full tape", x.feed(0, 0, 0, 0, 0), -1);
        Check.due("trouble() behind a feed() of a full tape", x.trouble(), 5);
    }
}
