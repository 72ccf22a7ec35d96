/** Ways: promises 13 to 17 and 29, with what Terms II and III say of ways, partners and savings. */
final class WayEdges {
    private static final int MIN = Integer.MIN_VALUE;
    private static final int MAX = Integer.MAX_VALUE;
    private static final int NO_SUM = -1000000;
    private static final String EIGHT = "place a;place b;place c;place d;place e;place f;place g;place h;goods w;"
        + "man m of a since 0;";
    private static final String END = "law l older own alike copies;cart k of m with w own loads 1 from a to h day 30";

    private WayEdges() {
    }

    static void all() {
        longest();
        toldFromTheFarEnd();
        allRoadsAndBridges();
        bothWays();
        onItsDay();
        dearest();
        cheapestFirst();
        shortestNext();
        leastPlaces();
        samePlaces();
        noWay();
        stops();
        lengths();
        led();
        partners();
        sixMen();
        partnersSince();
        savings();
    }

    /** The way of the first cart is due: its owes, its length, its places as a word, then its bridges. */
    private static void way(String lines, int owes, int length, String places, int... bridges) {
        isWay(Check.sound(EIGHT + lines + ";" + END), lines, owes, length, places, bridges);
    }

    private static void isWay(TollBars x, String of, int owes, int length, String places, int... bridges) {
        Check.due("way of " + of, x.way(0, 0), owes);
        Check.due("trouble()", x.trouble(), 0);
        Check.due("length of " + of, x.length(), length);
        for (int i = 0; i < places.length(); i++) {
            Check.due("stop " + i + " of " + of, x.stop(i), places.charAt(i) - 'a');
        }
        Check.due("no stop more of " + of, x.stop(places.length()), -1);
        for (int i = 0; i < bridges.length; i++) {
            Check.due("bridge " + i + " of " + of, Check.led(x, i), bridges[i]);
        }
        Check.due("no bridge more of " + of, Check.led(x, bridges.length), -7);
    }

    private static String row(String word) {
        StringBuilder text = new StringBuilder();
        for (char c = 'a'; c < 'h'; c++) {
            text.append(c == 'a' ? "" : ";").append(word.replace("?", "x" + c)).append(c + " to " + (char) (c + 1) + " long 99");
        }
        return text.toString();
    }

    private static void longest() {
        Sentence.term(2, "A WAY: PLACES, each once, from the cart's from to its to, by roads and bridges");
        way(row("road "), 0, 693, "abcdefgh");
        way(row("bridge ? by "), 0, 693, "abcdefgh", 0, 1, 2, 3, 4, 5, 6);
        way(row("bridge ? by ") + ";road a to h long 99", 0, 99, "ah");
        // The longest way without toll is cheaper than the shortest with one coin.
        way(row("road ") + ";bridge x by a to h long 1;take t at x on w coin 1 day 0", 0, 693, "abcdefgh");
        way("road a to h long 1", 0, 1, "ah");
    }

    /** In whichever order and direction roads are told, the way is the same. */
    private static void toldFromTheFarEnd() {
        Sentence.term(2, "by roads and bridges (both ways; on its day)");
        StringBuilder near = new StringBuilder();
        StringBuilder far = new StringBuilder();
        StringBuilder farTurned = new StringBuilder();
        for (char c = 'a'; c < 'h'; c++) {
            char next = (char) (c + 1);
            near.append(";road " + next + " to " + c + " long 3");
            far.insert(0, ";road " + c + " to " + next + " long 3");
            farTurned.insert(0, ";road " + next + " to " + c + " long 3");
        }
        way(near.substring(1), 0, 21, "abcdefgh");
        way(far.substring(1), 0, 21, "abcdefgh");
        way(farTurned.substring(1), 0, 21, "abcdefgh");
        way(near.substring(1) + ";road b to h long 99;road a to h long 22", 0, 21, "abcdefgh");
        way(far.substring(1) + ";road b to h long 99;road a to h long 20", 0, 20, "ah");
    }

    /** Twelve roads and eight bridges: the last line's leads there, and nothing else does. */
    private static void allRoadsAndBridges() {
        Sentence.term(1, "12 roads, 8 bridges");
        StringBuilder roads = new StringBuilder();
        StringBuilder bridges = new StringBuilder();
        for (int i = 0; i < 11; i++) {
            roads.append("road a to b long 9;");
        }
        for (int i = 0; i < 7; i++) {
            bridges.append("bridge x" + (char) ('a' + i) + " by a to b long 9;");
        }
        way(roads + "road b to c long 2;" + bridges + "bridge z by b to h long 3", 0, 12, "abh", 7);
        way(bridges + "bridge z by b to c long 3;" + roads + "road a to h long 2", 0, 2, "ah");
        TollBars x = Check.sound(EIGHT + bridges + "bridge z by b to h long 3;" + roads + "road b to c long 2;" + END);
        Check.due("roads", x.size(3), 12);
        Check.due("bridges", x.size(4), 8);
        isWay(x, "all roads and bridges", 0, 12, "abh", 0, 7);
    }

    private static void bothWays() {
        Sentence.term(2, "(both ways; on its day)");
        way("road h to a long 5", 0, 5, "ah");
        way("bridge x by h to a long 5", 0, 5, "ah", 0);
        way("road h to g long 5;road g to a long 6", 0, 11, "agh");
        way("road g to h long 5;road a to g long 6", 0, 11, "agh");
    }

    private static void onItsDay() {
        Sentence.term(2, "(both ways; on its day)");
        way("bridge x by a to h long 5;take t at x on w coin 2 day 29", 2, 5, "ah", 0);
        way("bridge x by a to h long 5;take t at x on w coin 2 day 30", 2, 5, "ah", 0);
        way("bridge x by a to h long 5;take t at x on w coin 2 day 31", 0, 5, "ah", 0);
        way("bridge x by a to h long 5;take t at x on w coin 2 day 1;free q for a on w own day 1", 0, 5, "ah", 0);
    }

    private static void dearest() {
        Sentence.promise(13, "OWES of a cart on its CHEAPEST WAY.");
        StringBuilder takes = new StringBuilder();
        for (char c = 'a'; c < 'g'; c++) {
            takes.append(";take t" + c + " at x" + c + " on all coin 99 day 0");
        }
        TollBars x = Check.sound(EIGHT + row("bridge ? by ") + takes + ";law l older own alike copies;"
            + "cart k of m with w own loads 99 from a to h day 0");
        isWay(x, "six takes of 99 coin, 99 loads, seven bridges of 99", 58806, 693, "abcdefgh", 0, 1, 2, 3, 4, 5, 6);
        Check.due("coin", x.coin(0), 58806);
        Check.due("worth of the last take", x.worth(5, 0), -9801);
    }

    private static void cheapestFirst() {
        Sentence.term(2, "CHEAPEST: of least OWES of all bridges together");
        String two = "bridge x by a to b long 1;bridge y by b to h long 1;bridge z by a to h long 9;";
        way(two + "take t at x on w coin 1 day 0;take u at y on w coin 1 day 0;take v at z on w coin 2 day 0", 2, 2, "abh", 0, 1);
        way(two + "take t at x on w coin 1 day 0;take u at y on w coin 2 day 0;take v at z on w coin 2 day 0", 2, 9, "ah", 2);
        way(two + "take t at x on w coin 1 day 0;take u at y on w coin 1 day 0;take v at z on w coin 3 day 0", 2, 2, "abh", 0, 1);
        way("bridge x by a to h long 1;take t at x on w coin 99 day 0;road a to b long 99;road b to h long 99", 0, 198, "abh");
    }

    private static void shortestNext() {
        Sentence.term(2, "of like ones the shortest (long together)");
        way("road a to h long 7;road a to b long 3;road b to h long 3", 0, 6, "abh");
        way("road a to h long 5;road a to b long 3;road b to h long 3", 0, 5, "ah");
        way("bridge x by a to h long 7;take t at x on w coin 1 day 0;bridge y by a to g long 3;take u at y on w coin 1 day 0;"
            + "road g to h long 3", 1, 6, "agh", 1);
    }

    private static void leastPlaces() {
        Sentence.term(2, "of like ones the first by PLACES' numbers, from the first PLACE on");
        way("road a to h long 6;road a to b long 3;road b to h long 3", 0, 6, "abh");
        way("road a to c long 3;road c to h long 3;road a to b long 3;road b to h long 3", 0, 6, "abh");
        // The first that differs decides, not the second, nor how many there are.
        way("road a to c long 3;road c to b long 1;road b to h long 2;road a to d long 4;road d to h long 2", 0, 6, "acbh");
        way("road a to b long 2;road b to g long 2;road g to h long 2;road a to c long 3;road c to h long 3", 0, 6, "abgh");
        way("road a to b long 1;road b to d long 2;road d to h long 2;road b to c long 2;road c to h long 2", 0, 5, "abch");
        // Not the first by lines.
        way("road a to g long 3;road g to h long 3;road a to f long 3;road f to h long 3", 0, 6, "afh");
        // The least next place, though a place behind it is greater.
        way("road a to b long 1;road b to g long 1;road g to h long 1;road a to c long 1;road c to d long 1;road d to h long 1", 0,
            3, "abgh");
    }

    private static void samePlaces() {
        Sentence.term(2, "(of those that lead between the same PLACES the one with least to owe, then the shortest, then the first "
            + "LINE's)");
        String x = "bridge x by a to h long 4";
        way(x + ";bridge y by h to a long 4", 0, 4, "ah", 0);
        way(x + ";bridge y by h to a long 3", 0, 3, "ah", 1);
        way(x + ";road h to a long 4", 0, 4, "ah", 0);
        way("road h to a long 4;" + x, 0, 4, "ah");
        way("road h to a long 4;" + x.replace("4", "3"), 0, 3, "ah", 0);
        way(x + ";road h to a long 5;take t at x on w coin 1 day 0", 0, 5, "ah");
        way(x + ";bridge y by a to h long 3;take t at x on w coin 1 day 0;take u at y on w coin 2 day 0", 1, 4, "ah", 0);
        way(x + ";bridge y by a to h long 4;bridge z by a to h long 4;take t at x on w coin 1 day 0", 0, 4, "ah", 1);
    }

    private static void noWay() {
        Sentence.promise(13, "NONE: 1 (cart, LAW); 6.");
        TollBars x = Check.sound(EIGHT + "road a to b long 1;road b to c long 1;road g to h long 1;" + END
            + ";cart n of m with w own loads 1 from c to a day 30");
        Check.due("way", x.way(0, 0), -1);
        Check.due("trouble()", x.trouble(), 6);
        Check.due("no stop", x.stop(0), -1);
        Check.due("no length", x.length(), -1);
        Check.due("no bridge", Check.led(x, 0), -7);
        Sentence.promise(16, "NONE: 1 (cart, LAW); 6.");
        Check.due("partner", x.partner(0, 0), -1);
        Check.due("trouble()", x.trouble(), 6);
        Check.due("partner of no cart", x.partner(2, 0), -1);
        Check.due("trouble()", x.trouble(), 1);
        Sentence.promise(17, "-1,000,000: 1 (cart, PLACE, LAW); 6.");
        Check.due("saves", x.saves(0, 0, 0), NO_SUM);
        Check.due("trouble()", x.trouble(), 6);
        Check.due("saves as of no place", x.saves(0, 8, 0), NO_SUM);
        Check.due("trouble()", x.trouble(), 1);
        Sentence.promise(14, "the latest WAY that way() told since realm()");
        Check.due("way of the other", x.way(1, 0), 0);
        Check.due("way of the first", x.way(0, 0), -1);
        Check.due("way of none", x.way(2, 0), -1);
        Check.due("the latest that was told", x.stop(0), 2);
        Check.due("its last", x.stop(2), 0);
        Check.due("its length", x.length(), 2);
    }

    private static void stops() {
        Sentence.promise(14, "NONE for none such.");
        TollBars x = Check.sound(EIGHT + row("road ") + ";" + END);
        int[] none = {-1, 0, 1, 8, MIN, MAX};
        for (int i : none) {
            Check.due("stop(" + i + ") ahead of a way", x.stop(i), -1);
        }
        Check.due("way", x.way(0, 0), 0);
        for (int i = 0; i < 8; i++) {
            Check.due("stop(" + i + ")", x.stop(i), i);
        }
        int[] beyond = {-1, 8, 9, MIN, MAX};
        for (int i : beyond) {
            Check.due("stop(" + i + ")", x.stop(i), -1);
        }
        Sentence.promise(14, "The i-th PLACE of the latest WAY that way() told since realm()");
        // Other calls that look for ways tell none; papers that change later change no way that was told.
        TollBars y = Check.sound(EIGHT + "bridge x by a to h long 1;bridge y by a to b long 1;bridge z by b to h long 1;"
            + "take t at x on w coin 1 day 0;" + END + ";cart n of m with w own loads 1 from b to a day 30");
        Check.due("way", y.way(0, 0), 0);
        y.coin(0);
        y.partner(1, 0);
        y.saves(1, 1, 0);
        y.worth(0, 0);
        y.moves(0, 0);
        y.brings(0, 0, 0, 0);
        y.hangs(0);
        y.part(0, 0);
        Check.due("stop 0", y.stop(0), 0);
        Check.due("stop 1", y.stop(1), 1);
        Check.due("lose t", y.lose(0, false), true);
        Check.due("stop 1 still", y.stop(1), 1);
        Check.due("length still", y.length(), 2);
        Check.due("way now", y.way(0, 0), 0);
        Check.due("stop 1 now", y.stop(1), 7);
        Check.due("stop 2 now", y.stop(2), -1);
        Check.due("length now", y.length(), 1);
        Check.due("led 0 now", Check.led(y, 0), 0);
        Check.due("led 1 now", Check.led(y, 1), -7);
    }

    private static void lengths() {
        Sentence.promise(15, "Its length; NONE without one.");
        TollBars x = Check.sound(EIGHT + "road a to h long 99;" + END);
        Check.due("ahead of a way", x.length(), -1);
        Check.due("way", x.way(0, 0), 0);
        Check.due("length", x.length(), 99);
        Check.due("a faulty realm", Check.realm(x, "place a"), -1);
        Check.due("length still", x.length(), 99);
        Check.due("a realm refused by 2", x.realm(1), -1);
        Check.due("length still", x.length(), 99);
        Check.due("another realm", Check.realm(x, EIGHT + "road a to h long 1;" + END), 8);
        Check.due("ahead of its way", x.length(), -1);
        Check.due("way", x.way(0, 0), 0);
        Check.due("length", x.length(), 1);
    }

    private static void led() {
        Sentence.promise(29, "NoSuchElementException if there is none such.");
        TollBars x = Check.sound(EIGHT + "bridge x by c to h long 1;road a to b long 1;bridge y by c to b long 1;" + END);
        int[] all = {-1, 0, 1, 2, MIN, MAX};
        for (int i : all) {
            Check.due("led(" + i + ") ahead of a way", Check.led(x, i), -7);
        }
        Check.due("way", x.way(0, 0), 0);
        Sentence.promise(29, "The i-th bridge of the latest WAY. NoSuchElementException if there is none such.");
        for (int i : all) {
            Check.due("led(" + i + ")", Check.led(x, i), i == 0 ? 1 : i == 1 ? 0 : -7);
        }
        TollBars roads = Check.sound(EIGHT + "bridge x by c to h long 1;road a to h long 1;" + END);
        Check.due("way by a road alone", roads.way(0, 0), 0);
        Check.due("led(0)", Check.led(roads, 0), -7);
    }

    private static void partners() {
        Sentence.term(3, "its own first, then the first such");
        String text = "place a;place b;place c;goods w;bridge x by a to b long 1;take t at x on w coin 2 day 10;"
            + "man m of a since 0;man n of b since 0;man o of c since 0;man p of b since 0;law l older own alike copies;"
            + "free f for b on w own day 9;free h for c on w own day 9;free i for a on w own day 9;";
        String[] owners = {"m", "n", "o", "p"};
        for (int own = 0; own < 4; own++) {
            TollBars x = Check.sound(text + "cart k of " + owners[own] + " with w own loads 1 from a to b day 30");
            Check.due("all owe nothing: its own", x.partner(0, 0), own);
            Check.due("lose a's", x.lose(8, false), true);
            Check.due("its own, or the first", x.partner(0, 0), own == 0 ? 1 : own);
            Check.due("lose b's", x.lose(6, false), true);
            Check.due("c's man alone", x.partner(0, 0), 2);
            Check.due("lose c's", x.lose(7, false), true);
            Check.due("all owe alike: its own", x.partner(0, 0), own);
            Check.due("trouble()", x.trouble(), 0);
            Check.due("find a's", x.find(8), true);
            Check.due("a's man alone", x.partner(0, 0), 0);
        }
        // Another way in another's name: x costs him nothing, y costs the owner least.
        Sentence.term(3, "the man in whose name (his PLACE and since) a cart OWES least on its CHEAPEST WAY");
        TollBars y = Check.sound("place a;place b;goods w;bridge x by a to b long 1;bridge y by a to b long 1;"
            + "take t at x on w coin 9 day 10;take u at y on w coin 3 day 5;free f for b on w own day 7;man m of a since 0;"
            + "man n of b since 0;law l older own alike copies;cart k of m with w own loads 1 from a to b day 30");
        Check.due("the owner's way", y.way(0, 0), 3);
        Check.due("partner", y.partner(0, 0), 1);
        Check.due("saves", y.saves(0, 1, 0), 3);
    }

    /** Of as many men as there is room for each may be the partner. */
    private static void sixMen() {
        Sentence.promise(16, "PARTNER: the man.");
        String[] places = {"a", "b", "c", "d", "e", "f"};
        for (int free = 0; free < 6; free++) {
            StringBuilder text = new StringBuilder("goods w;law l older own alike copies");
            for (int i = 0; i < 6; i++) {
                text.append(";place " + places[i] + ";man m" + places[i] + " of " + places[i] + " since 0");
            }
            text.append(";bridge x by a to b long 1;take t at x on w coin 2 day 10;free z for " + places[free] + " on w own day 9");
            for (int own = 0; own < 6; own++) {
                text.append(";cart k" + places[own] + " of m" + places[own] + " with w own loads 1 from a to b day 30");
            }
            TollBars x = Check.sound(text.toString());
            for (int own = 0; own < 6; own++) {
                Check.due("partner of " + own, x.partner(own, 0), free);
            }
            Check.due("lose the free", x.lose(6, false), true);
            for (int own = 0; own < 6; own++) {
                Check.due("partner of " + own + " where none is free", x.partner(own, 0), own);
            }
        }
    }

    private static void partnersSince() {
        Sentence.term(3, "(his PLACE and since)");
        for (int since = 29; since <= 31; since++) {
            TollBars x = Check.sound("place a;place b;goods w;bridge x by a to b long 1;take t at x on w coin 2 day 10;"
                + "free f for b on w own day 9;man m of a since 0;man n of b since " + since
                + ";law l older own alike copies;cart k of m with w own loads 1 from a to b day 30");
            Check.due("partner of b since " + since, x.partner(0, 0), since <= 30 ? 1 : 0);
            Check.due("saves as of b", x.saves(0, 1, 0), 2);
        }
    }

    private static void savings() {
        Sentence.term(3, "SAVES: OWES on the CHEAPEST WAY less that if its man were of another PLACE since 0");
        String text = "place a;place b;place c;goods w;bridge x by a to b long 1;take t at x on w coin 99 day 0;"
            + "free f for b on w own day 0;as s for c like b day 0;law l older own alike copies;man m of a since 0;"
            + "man n of b since 1;man o of b since 0;";
        TollBars x = Check.sound(text + "cart k of m with w own loads 99 from a to b day 0;"
            + "cart p of n with w own loads 99 from a to b day 0;cart q of o with w own loads 99 from a to b day 0");
        Check.due("a man of a as of a", x.saves(0, 0, 0), 0);
        Check.due("trouble()", x.trouble(), 0);
        Check.due("as of b", x.saves(0, 1, 0), 9801);
        Check.due("as of c, by as", x.saves(0, 2, 0), 9801);
        Check.due("of b since 1, on day 0, as of b since 0", x.saves(1, 1, 0), 9801);
        Check.due("of b since 1, as of a", x.saves(1, 0, 0), 0);
        Check.due("of b since 0 as of a: less than nothing", x.saves(2, 0, 0), -9801);
        Check.due("trouble()", x.trouble(), 0);
        Sentence.promise(17, "SAVES.");
        Check.due("the man stays of his place", x.way(2, 0), 0);
        Check.due("the man stays of his place", x.way(0, 0), 9801);
    }
}
