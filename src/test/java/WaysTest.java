/** Promises 13 to 17 and 29: way, stop, length, partner, saves, led. */
public final class WaysTest {
    private static final String PLACES = "place a;place b;place c;place d;place e;goods w;man m of a since 5;"
        + "man o of b since 0;man p of c since 40;";
    private static final String END = "law l older own alike copies;cart k of m with w own loads 4 from a to b day 30";

    /** The way of the first cart: owes, length, places, bridges. */
    private static void way(String lines, int owes, int length, int[] stops, int... bridges) {
        TollBars x = Check.sound(PLACES + lines + ";" + END);
        Check.due("way with " + lines, x.way(0, 0), owes);
        Check.due("length with " + lines, x.length(), length);
        for (int i = 0; i <= stops.length; i++) {
            Check.due("stop " + i + " with " + lines, x.stop(i), i < stops.length ? stops[i] : -1);
        }
        for (int i = 0; i <= bridges.length; i++) {
            Check.due("led " + i + " with " + lines, Check.led(x, i), i < bridges.length ? bridges[i] : -7);
        }
        Check.due("stop -1", x.stop(-1), -1);
        Check.due("led -1", Check.led(x, -1), -7);
    }

    private static int[] places(int... all) {
        return all;
    }

    private static void cheapest() {
        way("road a to b long 9", 0, 9, places(0, 1));
        way("road b to a long 9", 0, 9, places(0, 1));
        way("bridge x by b to a long 3;take t at x on all coin 2 day 30", 8, 3, places(0, 1), 0);
        way("bridge x by b to a long 3;take t at x on all coin 2 day 31", 0, 3, places(0, 1), 0);
        // Less to owe is ahead of shorter.
        way("bridge x by a to b long 1;take t at x on w coin 1 day 3;road a to c long 99;road c to d long 99;"
            + "road d to e long 99;road e to b long 99", 0, 396, places(0, 2, 3, 4, 1));
        way("bridge x by a to b long 1;take t at x on w coin 9 day 3;bridge y by a to e long 3;bridge z by e to b long 4;"
            + "take u at z on w coin 4 day 3;take v at y on all coin 4 day 1", 32, 7, places(0, 4, 1), 1, 2);
        way("road a to b long 9;road a to c long 4;road c to b long 4", 0, 8, places(0, 2, 1));
        // Alike: by the numbers of places, though more or fewer of them.
        way("road a to d long 2;road d to b long 2;road a to c long 2;road c to b long 2", 0, 4, places(0, 2, 1));
        way("road a to d long 4;road d to b long 4;road a to e long 2;road e to c long 2;road c to b long 4",
            0, 8, places(0, 3, 1));
        way("road a to d long 4;road d to b long 4;road a to c long 2;road c to e long 2;road e to b long 4",
            0, 8, places(0, 2, 4, 1));
        way("road a to b long 8;road a to c long 4;road c to b long 4", 0, 8, places(0, 1));
    }

    private static void sameEnds() {
        way("road a to b long 3;bridge x by a to b long 2", 0, 2, places(0, 1), 0);
        way("road a to b long 3;bridge x by a to b long 3", 0, 3, places(0, 1));
        way("bridge x by b to a long 3;road a to b long 3", 0, 3, places(0, 1), 0);
        way("bridge x by b to a long 3;bridge y by a to b long 3", 0, 3, places(0, 1), 0);
        way("bridge x by b to a long 3;bridge y by a to b long 2", 0, 2, places(0, 1), 1);
        way("bridge x by b to a long 1;bridge y by a to b long 2;take t at x on w coin 1 day 0", 0, 2, places(0, 1), 1);
        way("bridge x by b to a long 1;road a to b long 2;take t at x on w coin 1 day 0", 0, 2, places(0, 1));
    }

    private static void latestWay() {
        TollBars x = Check.sound(PLACES + "bridge x by a to b long 3;bridge y by b to d long 4;" + END
            + ";cart n of m with w own loads 1 from a to c day 1;cart q of o with w trade loads 1 from d to a day 9");
        Check.due("way", x.way(0, 0), 0);
        Check.due("way without one", x.way(1, 0), -1);
        Check.due("trouble", x.trouble(), 6);
        Check.due("the latest told stays", x.stop(1), 1);
        Check.due("and its length", x.length(), 3);
        Check.due("way of the third", x.way(2, 0), 0);
        Check.due("trouble", x.trouble(), 0);
        Check.due("stop 0", x.stop(0), 3);
        Check.due("stop 2", x.stop(2), 0);
        Check.due("length", x.length(), 7);
        Check.due("led 0", Check.led(x, 0), 1);
        Check.due("led 1", Check.led(x, 1), 0);
        Check.due("way cart", x.way(3, 0), -1);
        Check.due("trouble", x.trouble(), 1);
        Check.due("way law", x.way(0, 1), -1);
        Check.due("trouble", x.trouble(), 1);
        Check.due("coin tells no way", x.coin(0), 0);
        Check.due("partner tells no way", x.partner(0, 0), 0);
        Check.due("saves tells no way", x.saves(0, 1, 0), 0);
        Check.due("stop 0 still", x.stop(0), 3);
        Check.due("lose", x.lose(0, false), false);
        Check.due("length still", x.length(), 7);
        Check.due("stop and length leave trouble", x.trouble(), 1);
        Check.due("partner without a way", x.partner(1, 0), -1);
        Check.due("trouble", x.trouble(), 6);
        Check.due("saves without a way", x.saves(1, 1, 0), -1000000);
        Check.due("trouble", x.trouble(), 6);
    }

    private static void partners() {
        String roads = "bridge x by a to b long 1;take t at x on w coin 2 day 10;bridge y by a to b long 2;"
            + "take u at y on w coin 1 day 10;";
        TollBars x = Check.sound(PLACES + roads + "free f for b on w own day 5;free h for c on w own day 5;" + END);
        Check.due("way", x.way(0, 0), 4);
        Check.due("partner", x.partner(0, 0), 1);
        Check.due("trouble", x.trouble(), 0);
        Check.due("saves as of b", x.saves(0, 1, 0), 4);
        // The third man is of c since a day behind the cart's; one of c since 0 would be free.
        Check.due("saves as of c", x.saves(0, 2, 0), 4);
        Check.due("saves as of d", x.saves(0, 3, 0), 0);
        Check.due("lost", x.lose(6, false), true);
        Check.due("own first", x.partner(0, 0), 0);
        TollBars y = Check.sound(PLACES + roads + "free f for a on w own day 5;" + END);
        Check.due("saves by less than nothing", y.saves(0, 1, 0), -4);
        Check.due("trouble", y.trouble(), 0);
        Check.due("own is least", y.partner(0, 0), 0);
        Check.due("saves place", y.saves(0, 5, 0), -1000000);
        Check.due("trouble", y.trouble(), 1);
        Check.due("saves place -1", y.saves(0, -1, 0), -1000000);
        Check.due("saves cart", y.saves(1, 1, 0), -1000000);
        Check.due("saves law", y.saves(0, 1, 1), -1000000);
        Check.due("trouble", y.trouble(), 1);
        Check.due("partner cart", y.partner(-1, 0), -1);
        Check.due("trouble", y.trouble(), 1);
        Check.due("partner law", y.partner(0, -1), -1);
        // In another's name another way may be the cheapest: the second bridge's take isn't on what b has free.
        TollBars z = Check.sound(PLACES + "goods v;bridge x by a to b long 9;take t at x on w coin 9 day 10;"
            + "bridge y by a to b long 2;take u at y on all coin 1 day 2;free f for b on w own day 5;"
            + "man q of b since 3;" + END);
        Check.due("way of its own", z.way(0, 0), 4);
        Check.due("of like ones the first", z.partner(0, 0), 1);
        Check.due("saves by another way", z.saves(0, 1, 0), 4);
        TollBars since = Check.sound(PLACES + roads + "free f for a on w own day 5;law l older own alike copies;"
            + "cart k of p with w own loads 4 from a to b day 30");
        Check.due("its own isn't free", since.way(0, 0), 4);
        Check.due("saves as of a", since.saves(0, 0, 0), 4);
    }

    private static void edges() {
        TollBars x = Check.sound("place a;place b;place c;goods w;man m of a since 5;bridge x by a to b long 1;"
            + "take t at x on w coin 2 day 0;free f for b on w own day 0;law l older own alike copies;"
            + "cart k of m with w own loads 4 from a to b day 0;cart n of m with w own loads 1 from b to c day 0");
        Check.due("since 0, on day 0", x.saves(0, 1, 0), 8);
        Check.due("no way to c", x.way(1, 0), -1);
        Check.due("no length", x.length(), -1);
    }

    public static void main(String[] args) {
        cheapest();
        sameEnds();
        latestWay();
        partners();
        edges();
        Check.end("WaysTest");
    }
}
