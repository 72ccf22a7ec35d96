/** Refused calls, promise by promise: each number too small, too large, and two wrong ones at once. */
final class RefusalEdges {
    private static final int MIN = Integer.MIN_VALUE;
    private static final int MAX = Integer.MAX_VALUE;
    private static final int NO_SUM = -1000000;
    private static final String TEXT = "place a;place b;place c;goods w;goods v;bridge x by a to b long 2;"
        + "bridge y by b to c long 1;man m of a since 5;man n of b since 5;take t at x on w coin 3 day 10 to 11;"
        + "take u at x on w coin 2 day 12;free f for b on w own day 15;as s for a like b day 9;"
        + "law l older own alike copies;law k later own alike papers;"
        + "cart p of m with w own loads 4 from a to b day 30;cart q of n with v trade loads 1 from b to a day 20";

    /** A call with its numbers in a row. */
    private interface Call {
        int of(TollBars x, int[] n);
    }

    private RefusalEdges() {
    }

    static void all() {
        whoOwes();
        ways();
        worth();
        papers();
        allGrants();
        allCartsAndBridges();
        choicesBehindDay();
        troubleGoes();
    }

    /** What there is of a kind in TEXT, and what there isn't. */
    private static int[] good(char kind) {
        switch (kind) {
            case 'p':
                return new int[] {0, 1, 2};
            case 'd':
                return new int[] {0, 1, 500, 998, 999};
            case 'g':
                return new int[] {0, 1, 6, 12};
            case 'r':
                return new int[] {0, 1, 6};
            case 'h':
                return new int[] {0, 1, 2};
            case 'i':
                return new int[] {0};
            default:
                return new int[] {0, 1};
        }
    }

    private static int[] bad(char kind) {
        switch (kind) {
            case 'p':
            case 'h':
                return new int[] {-1, 3, MIN, MAX};
            case 'd':
                return new int[] {-1, 1000, MIN, MAX};
            case 'g':
                return new int[] {-1, 2, 5, 7, 11, 13, 15, 16, MIN, MAX};
            case 'r':
                return new int[] {-1, 2, 5, 7, 11, 12, 13, 15, 16, MIN, MAX};
            case 't':
                return new int[] {-1, 2, 6, 12, MIN, MAX};
            case 'i':
                return new int[] {-1, 1, MIN, MAX};
            default:
                return new int[] {-1, 2, MIN, MAX};
        }
    }

    private static String row(int[] numbers) {
        return java.util.Arrays.toString(numbers);
    }

    private static void refused(TollBars x, Call call, int[] numbers, int none, int trouble) {
        // Trouble of a call that isn't refused comes between, so that a number left behind is seen.
        x.coin(0);
        Check.due("call " + row(numbers), call.of(x, numbers), none);
        Check.due("trouble() of " + row(numbers), x.trouble(), trouble);
    }

    /** Kinds: c cart, b bridge, l law, t take, p place, d day, g grant, r take or free, h how, i an i of chain(). */
    private static void numbers(int promise, String words, String kinds, int none, Call call) {
        Sentence.promise(promise, words);
        int count = kinds.length();
        for (int i = 0; i < count; i++) {
            for (int wrong : bad(kinds.charAt(i))) {
                TollBars x = Check.sound(TEXT);
                int[] numbers = usual(kinds);
                numbers[i] = wrong;
                refused(x, call, numbers, none, kinds.charAt(i) == 'd' ? 2 : 1);
                for (int j = 0; j < count; j++) {
                    if (j != i && kinds.charAt(i) != 'd') {
                        int[] two = numbers.clone();
                        two[j] = bad(kinds.charAt(j))[1];
                        boolean dayFirst = kinds.charAt(i) == 'i' && kinds.charAt(j) == 'd';
                        refused(x, call, two, none, dayFirst ? 2 : 1);
                    }
                }
            }
            for (int right : good(kinds.charAt(i))) {
                TollBars x = Check.sound(TEXT);
                int[] numbers = usual(kinds);
                numbers[i] = right;
                // A day of 0 or 1 has no as in force, so chain() has no i then.
                if (!(kinds.indexOf('i') >= 0 && (kinds.charAt(i) == 'd' && right < 9 || kinds.charAt(i) == 'p' && right > 0))) {
                    call.of(x, numbers);
                    Check.due("trouble() of " + row(numbers), x.trouble(), 0);
                }
            }
        }
    }

    private static int[] usual(String kinds) {
        int[] numbers = new int[kinds.length()];
        int day = kinds.indexOf('d');
        if (day >= 0) {
            numbers[day] = 30;
        }
        return numbers;
    }

    private static void whoOwes() {
        numbers(6, "NONE: 1 (cart, bridge, LAW); 2 (day 0 .. 999).", "cbdl", -1, (x, n) -> x.owes(n[0], n[1], n[2], n[3]));
        numbers(7, "NONE: 1 (cart, take, LAW); 2.", "ctdl", -1, (x, n) -> x.wins(n[0], n[1], n[2], n[3]));
        int[] told = {0, -1, 20, MIN, MAX};
        for (int sum : told) {
            numbers(8, "NONE: as owes().", "cbdl", -1, (x, n) -> x.judge(n[0], n[1], n[2], n[3], sum));
        }
        numbers(9, "NONE: 1; 2; 3", "cbdl", -1, (x, n) -> x.sure(n[0], n[1], n[2], n[3], true));
        numbers(9, "NONE: 1; 2; 3", "cbdl", -1, (x, n) -> x.sure(n[0], n[1], n[2], n[3], false));
        numbers(10, "NONE: 1 (GRANT, LAW); 2.", "gdl", -1, (x, n) -> x.force(n[0], n[1], n[2]));
        numbers(11, "NONE: 1 (PLACE, LAW); 2; 1 (no such i).", "pdli", -1, (x, n) -> x.chain(n[0], n[1], n[2], n[3]));
        numbers(12, "NONE: 1; 2.", "pdl", -1, (x, n) -> x.ring(n[0], n[1], n[2]));
    }

    private static void ways() {
        numbers(13, "NONE: 1 (cart, LAW); 6.", "cl", -1, (x, n) -> x.way(n[0], n[1]));
        numbers(16, "NONE: 1 (cart, LAW); 6.", "cl", -1, (x, n) -> x.partner(n[0], n[1]));
        numbers(17, "-1,000,000: 1 (cart, PLACE, LAW); 6.", "cpl", NO_SUM, (x, n) -> x.saves(n[0], n[1], n[2]));
    }

    private static void worth() {
        numbers(18, "NONE: 1 (LAW).", "l", -1, (x, n) -> x.coin(n[0]));
        numbers(19, "-1,000,000: 1 (GRANT, LAW).", "gl", NO_SUM, (x, n) -> x.worth(n[0], n[1]));
        numbers(20, "NONE: 1 (LAW); 6 (no GRANT has a span).", "l", -1, (x, n) -> x.hangs(n[0]));
        numbers(21, "NONE: 1 (GRANT, LAW).", "gl", -1, (x, n) -> x.moves(n[0], n[1]));
        numbers(22, "-1,000,000: 1 (GRANT, how, LAW); 2.", "rhdl", NO_SUM, (x, n) -> x.brings(n[0], n[1], n[2], n[3]));
        numbers(23, "NONE: 1.", "ll", -1, (x, n) -> x.part(n[0], n[1]));
    }

    private static void papers() {
        numbers(24, "false: 1; 5 (it is lost).", "g", 0, (x, n) -> x.lose(n[0], true) ? 1 : 0);
        numbers(24, "false: 1; 5 (it is lost).", "g", 0, (x, n) -> x.lose(n[0], false) ? 1 : 0);
        numbers(26, "false: 1; 2 (0 .. 999).", "gd", 0, (x, n) -> x.date(n[0], n[1]) ? 1 : 0);
        Sentence.promise(25, "false: 1; 5 (it isn't lost).");
        for (int grant : bad('g')) {
            refused(Check.sound(TEXT), (x, n) -> x.find(n[0]) ? 1 : 0, new int[] {grant}, 0, 1);
        }
        for (int grant : good('g')) {
            refused(Check.sound(TEXT), (x, n) -> x.find(n[0]) ? 1 : 0, new int[] {grant}, 0, 5);
        }
    }

    private static void allGrants() {
        Sentence.term(2, "takes, then frees, then as (by LINES each: 0 .. 5, 6 .. 11, 12 .. 15)");
        StringBuilder text = new StringBuilder("place a;place b;bridge x by a to b long 1;");
        for (int i = 0; i < 6; i++) {
            char c = (char) ('a' + i);
            // Frees and as come ahead of takes, so that only their own lines number them.
            text.append(i < 4 ? "as s" + c + " for a like b day " + (12 + i) + ";" : "");
            text.append("free f" + c + " for a on all own day " + (6 + i) + ";");
            text.append("take t" + c + " at x on all coin " + (90 + i) + " day " + i + ";");
        }
        TollBars x = Check.sound(text + "law l older own alike copies");
        for (int g = 0; g < 16; g++) {
            Check.due("grant(" + g + ", 0)", x.grant(g, 0), g);
            Check.due("grant(" + g + ", 5)", x.grant(g, 5), g < 6 ? 90 + g : 0);
            Check.due("force ahead of " + g, x.force(g, g - 1, 0), g == 0 ? -1 : 0);
            Check.due("force of " + g, x.force(g, g, 0), 1);
            Check.due("worth of " + g, x.worth(g, 0), 0);
            Check.due("moves of " + g, x.moves(g, 0), 0);
            Check.due("brings of " + g, x.brings(g, 0, 0, 0), g < 12 ? 0 : NO_SUM);
            Check.due("date of " + g, x.date(g, 999 - g), true);
            Check.due("lose " + g, x.lose(g, g % 2 == 0), true);
            Check.due("find " + g, x.find(g), true);
            Check.due("grant(" + g + ", 1)", x.grant(g, 1), 999 - g);
        }
        int[] none = {-1, 16, 17, MIN, MAX};
        for (int g : none) {
            Check.due("grant(" + g + ", 0)", x.grant(g, 0), -1);
            refused(x, (y, n) -> y.force(n[0], 9, 0), new int[] {g}, -1, 1);
            refused(x, (y, n) -> y.worth(n[0], 0), new int[] {g}, NO_SUM, 1);
            refused(x, (y, n) -> y.lose(n[0], true) ? 1 : 0, new int[] {g}, 0, 1);
        }
    }

    private static void allCartsAndBridges() {
        Sentence.promise(23, "10 times the cart and the bridge; -2 if they don't");
        StringBuilder text = new StringBuilder("place a;place b;goods g;man m of a since 0;");
        for (int i = 0; i < 8; i++) {
            text.append("bridge b" + (char) ('a' + i) + " by a to b long 1;");
        }
        for (int i = 0; i < 6; i++) {
            text.append("cart c" + (char) ('a' + i) + " of m with g own loads 1 from a to b day " + (5 + i) + ";");
        }
        TollBars x = Check.sound(text + "take t at bh on all coin 1 day 10;lost t copied;law l older own alike copies;"
            + "law p older own alike papers;law q later given named papers");
        Check.due("the last cart at the last bridge", x.part(0, 1), 57);
        Check.due("turned about", x.part(2, 0), 57);
        Check.due("they don't", x.part(1, 2), -2);
        Check.due("the same", x.part(2, 2), -2);
        Check.due("trouble()", x.trouble(), 0);
        Check.due("owes", x.owes(5, 7, 10, 0), 1);
        refused(x, (y, n) -> y.part(n[0], n[1]), new int[] {3, 0}, -1, 1);
        refused(x, (y, n) -> y.part(n[0], n[1]), new int[] {0, 3}, -1, 1);
        refused(x, (y, n) -> y.part(n[0], n[1]), new int[] {3, 3}, -1, 1);
        refused(x, (y, n) -> y.owes(n[0], n[1], 10, 0), new int[] {6, 7}, -1, 1);
        refused(x, (y, n) -> y.owes(n[0], n[1], 10, 0), new int[] {5, 8}, -1, 1);
        Check.due("date t", x.date(0, 0), true);
        Check.due("the first cart at the last bridge", x.part(0, 1), 7);
    }

    private static void choicesBehindDay() {
        Sentence.promise(9, "NONE: 1; 2; 3 (more than 2,000 choices).");
        TollBars x = Check.sound("place a;place b;goods g;man m of a since 0;bridge x by a to b long 1;"
            + "take t at x on all coin 1 day 0 to 20;take u at x on all coin 1 day 0 to 20;take v at x on all coin 1 day 0 to 20;"
            + "law l older own alike copies;cart k of m with g own loads 1 from a to b day 3");
        refused(x, (y, n) -> y.sure(n[0], n[1], n[2], n[3], true), new int[] {0, 0, 9, 0}, -1, 3);
        refused(x, (y, n) -> y.sure(n[0], n[1], n[2], n[3], false), new int[] {0, 0, 9, 0}, -1, 3);
        refused(x, (y, n) -> y.sure(n[0], n[1], n[2], n[3], true), new int[] {0, 0, 1000, 0}, -1, 2);
        refused(x, (y, n) -> y.sure(n[0], n[1], n[2], n[3], true), new int[] {1, 0, 1000, 0}, -1, 1);
        refused(x, (y, n) -> y.sure(n[0], n[1], n[2], n[3], true), new int[] {0, 1, 9, 0}, -1, 1);
        refused(x, (y, n) -> y.sure(n[0], n[1], n[2], n[3], true), new int[] {0, 0, 9, 1}, -1, 1);
    }

    private static void troubleGoes() {
        Sentence.term(4, "0 it wasn't; 1 there is none such; 2 a number; 3 no room; 4 a FAULT; 5 not so; 6 there is no way");
        Call[] calls = {
            (x, n) -> x.owes(0, 0, 30, 0), (x, n) -> x.wins(0, 0, 30, 0), (x, n) -> x.judge(0, 0, 30, 0, 1),
            (x, n) -> x.sure(0, 0, 30, 0, true), (x, n) -> x.force(0, 30, 0), (x, n) -> x.chain(0, 30, 0, 0),
            (x, n) -> x.ring(0, 30, 0), (x, n) -> x.way(0, 0), (x, n) -> x.partner(0, 0), (x, n) -> x.saves(0, 0, 0),
            (x, n) -> x.coin(0), (x, n) -> x.worth(0, 0), (x, n) -> x.hangs(0), (x, n) -> x.moves(0, 0),
            (x, n) -> x.brings(0, 0, 0, 0), (x, n) -> x.part(0, 1), (x, n) -> x.lose(0, true) ? 1 : 0,
            (x, n) -> x.find(0) ? 1 : 0, (x, n) -> x.date(0, 3) ? 1 : 0,
            (x, n) -> Check.realm(x, "place a;place b;law l older own alike copies")};
        TollBars x = Check.sound(TEXT);
        for (int i = 0; i < calls.length; i++) {
            Check.due("a refused call", x.coin(-1), -1);
            Check.due("trouble()", x.trouble(), 1);
            calls[i].of(x, null);
            Check.due("trouble() behind call " + i, x.trouble(), 0);
        }
    }
}
