/** Promises 1 to 5, 30 and 31: the new object, the tape, the text and its faults, sizes. */
public final class RealmTest {
    private static final String LAW = ";law l older own alike copies";
    private static final String TWO = "place a;place b;";
    private static final String BASE = TWO + "goods g;bridge x by a to b long 2;man m of a since 5;"
        + "take t at x on all coin 3 day 10;free f for b on g both day 11;as s for a like b day 20;";

    private static void newObject() {
        TollBars x = new TollBars();
        for (int what = 0; what <= 11; what++) {
            Check.due("new size(" + what + ")", x.size(what), 0);
        }
        Check.due("size(-1)", x.size(-1), -1);
        Check.due("size(12)", x.size(12), -1);
        Check.due("size(min)", x.size(Integer.MIN_VALUE), -1);
        Check.due("size(max)", x.size(Integer.MAX_VALUE), -1);
        Check.due("new trouble()", x.trouble(), 0);
        Check.due("new fault()", x.fault(), 0);
        Check.due("new where()", x.where(), -1);
        Check.due("new stop(0)", x.stop(0), -1);
        Check.due("new length()", x.length(), -1);
        Check.due("new led(0)", Check.led(x, 0), -7);
        Check.due("new cart", x.cart(0, 0), -1);
        Check.due("new lose", x.lose(0, true), false);
        Check.due("trouble()", x.trouble(), 1);
        Check.due("NONE", TollBars.NONE, -1);
    }

    private static void tape() {
        TollBars x = new TollBars();
        for (int i = 1; i <= 45; i++) {
            Check.due("feed " + i, x.feed(0, 0, 0, 0, 0), 20 * i);
        }
        Check.due("feed beyond 900", x.feed(1, 2, 3, 4, 5), -1);
        Check.due("a refused feed leaves trouble", x.trouble(), 0);
        Check.due("size(11)", x.size(11), 900);
        Check.due("realm(901)", x.realm(901), -1);
        Check.due("trouble", x.trouble(), 2);
        Check.due("fault after 2", x.fault(), 0);
        Check.due("where after 2", x.where(), -1);
        Check.due("realm(-1)", x.realm(-1), -1);
        Check.due("trouble", x.trouble(), 2);
        Check.due("tape stays", x.size(11), 900);
        Check.due("realm(900) of zeros", x.realm(900), -1);
        Check.due("fault", x.fault(), 1);
        Check.due("where", x.where(), 0);
        Check.due("tape empty", x.size(11), 0);
        Check.due("feed leaves trouble", x.feed(0, 0, 0, 0, 0), 20);
        Check.due("where behind feed", x.where(), 0);
        Check.due("trouble behind feed", x.trouble(), 4);
        Check.due("realm(21)", x.realm(21), -1);
        Check.due("where behind 2", x.where(), -1);
        Check.due("fault behind 2", x.fault(), 1);
    }

    private static void realmStaysOrComes() {
        TollBars x = Check.sound(BASE + "law l older own alike copies;cart k of m with g own loads 2 from a to b day 30");
        Check.due("fault()", x.fault(), 0);
        Check.due("trouble()", x.trouble(), 0);
        Check.due("way", x.way(0, 0), 6);
        Check.due("lose", x.lose(0, false), true);
        Check.due("faulty", Check.realm(x, "place a"), -1);
        Check.due("fault", x.fault(), 6);
        Check.due("where", x.where(), 7);
        Check.due("the realm stays", x.size(0), 2);
        Check.due("its way too", x.stop(1), 1);
        Check.due("its papers too", x.grant(0, 2), 1);
        Check.due("a call that isn't refused", x.coin(0), 0);
        Check.due("where behind it", x.where(), -1);
        Check.due("fault behind it", x.fault(), 6);
        Check.feed(x, "place c;place d;place e" + LAW + ";and what is behind n counts for nothing");
        Check.due("realm", x.realm(52), 3);
        Check.due("tape empty", x.size(11), 0);
        Check.due("fault gone", x.fault(), 0);
        Check.due("no way told", x.stop(0), -1);
        Check.due("no length", x.length(), -1);
        Check.due("no bridge", Check.led(x, 0), -7);
        int[] sizes = {3, 0, 0, 0, 0, 0, 0, 0, 0, 1, 0, 0};
        for (int what = 0; what < 12; what++) {
            Check.due("size(" + what + ")", x.size(what), sizes[what]);
        }
    }

    /** Bytes behind n count for nothing, also inside a word or a whole. */
    private static void cutShort() {
        TollBars x = new TollBars();
        Check.feed(x, "place a;place b;law l older own alike copiesx");
        Check.due("realm cut behind copies", x.realm(44), 2);
        Check.feed(x, "place a;place b;law l older own alike copies;road a to b long 999");
        Check.due("realm cut inside a whole", x.realm(64), 2);
        Check.due("size(3)", x.size(3), 1);
        Check.feed(x, "place a;place b;law l older own alike copies");
        Check.due("realm cut inside a word", x.realm(43), -1);
        Check.due("fault", x.fault(), 1);
        Check.due("where", x.where(), 38);
    }

    private static void everySort() {
        TollBars x = Check.sound(BASE + "road a to b long 99;renew t same day 0;renew f more day 999;lost s;lost f copied;"
            + "law l later given named papers;cart k of m with g trade loads 99 from b to a day 0;man n of b since 0");
        int[] sizes = {2, 1, 2, 1, 1, 1, 1, 1, 2, 1, 1, 0};
        for (int what = 0; what < 12; what++) {
            Check.due("every sort: size(" + what + ")", x.size(what), sizes[what]);
        }
    }

    private static void tokens() {
        Check.sound("  place a ;place b;law l older own alike copies  ");
        Check.sound("place a;place b;road a to b long9;law l older own alike copies");
        Check.sound("place a;place b;road a to b long 009;law l older own alike copies");
        Check.sound("place abcdefgh;place b;law l older own alike copies");
        // Words of the text that aren't kept may be names.
        Check.sound("place of;place older;man since of of since 1;law day older own alike copies");
        Check.faulty("", 1, 0);
        Check.faulty("   ", 1, 3);
        Check.faulty("place a;", 1, 8);
        Check.faulty("place a;  ", 1, 10);
        Check.faulty("place a;;place b", 1, 8);
        Check.faulty("place abcdefghi", 1, 6);
        Check.faulty("place a;place b;road a to b long 0001", 1, 33);
        Check.faulty("place a;place b;road a to b long 1000", 1, 33);
        Check.faulty("place A", 1, 6);
        Check.faulty("place a,place b", 1, 7);
        Check.faulty("place " + (char) 225, 1, 6);
        Check.faulty("place\ta", 1, 5);
        Check.faulty("place a1;place b", 1, 7);
        Check.faulty("place 1", 1, 6);
        Check.faulty("places a", 1, 0);
        Check.faulty("plac ea", 1, 0);
        Check.faulty("7", 1, 0);
    }

    private static void form() {
        String[] kept = "place goods man road bridge take free as renew lost law cart all to copied".split(" ");
        for (String word : kept) {
            Check.faulty("place " + word, 1, 6);
            Check.faulty(TWO + "man m of " + word, 1, 25);
        }
        Check.faulty(TWO + "law l older own alike", 1, 37);
        Check.faulty(TWO + "law l own", 1, 22);
        Check.faulty(TWO + "law l older given alike copied", 1, 40);
        Check.faulty(TWO + "law l older given alike copies l", 1, 47);
        int end = BASE.length();
        Check.faulty(BASE + "take u at x on all coin 3 day 3 to", 1, end + 34);
        Check.faulty(BASE + "take u at x on all coin 3 to 4", 1, end + 26);
        Check.faulty(BASE + "renew t same day 3 to 4", 1, end + 19);
        Check.faulty(BASE + "renew t own", 1, end + 8);
        Check.faulty(BASE + "lost t copies", 1, end + 7);
        Check.faulty(BASE + "lost t copied copied", 1, end + 14);
        Check.faulty(BASE + "free h for a on all all", 1, end + 20);
        Check.faulty(BASE + "cart k of m with all", 1, end + 17);
        Check.faulty(BASE + "cart k of m with g both", 1, end + 19);
        Check.faulty(BASE + "cart k of m with g own loads 1 from a to b day 3 to 4", 1, end + 49);
        Check.faulty(BASE + "road a to b", 1, end + 11);
        Check.faulty(BASE + "man n of a since x", 1, end + 17);
    }

    private static void names() {
        int end = BASE.length();
        Check.faulty("place a;goods a", 3, 14);
        Check.faulty(BASE + "cart t of", 3, end + 5);
        Check.faulty(BASE + "law m older", 3, end + 4);
        Check.faulty(BASE + "bridge s by", 3, end + 7);
        Check.faulty(BASE + "road a to x", 2, end + 10);
        Check.faulty(BASE + "road a to a", 3, end + 10);
        Check.faulty(BASE + "bridge y by b to b", 3, end + 17);
        Check.faulty(BASE + "as u for b like b", 3, end + 16);
        Check.faulty(BASE + "as u for g", 2, end + 9);
        Check.faulty(BASE + "cart k of m with g own loads 1 from a to a", 3, end + 41);
        Check.faulty(BASE + "cart k of a", 2, end + 10);
        Check.faulty(BASE + "cart k of m with m", 2, end + 17);
        Check.faulty(BASE + "take u at a", 2, end + 10);
        Check.faulty(BASE + "take u at x on x", 2, end + 15);
        // both isn't kept, so here it is a name that isn't told.
        Check.faulty(BASE + "take u at x on both", 2, end + 15);
        Check.faulty(BASE + "renew s", 2, end + 6);
        Check.faulty(BASE + "renew x", 2, end + 6);
        Check.faulty(BASE + "lost x", 2, end + 5);
        Check.faulty(BASE + "lost t;lost t copied", 3, end + 12);
        Check.faulty(BASE + "lost s copied;lost t;lost s", 3, end + 26);
        Check.faulty("road a to b long 3;place a;place b", 2, 5);
    }

    private static void bounds() {
        int end = BASE.length();
        Check.faulty(BASE + "road a to b long 0", 4, end + 17);
        Check.faulty(BASE + "road a to b long 100", 4, end + 17);
        Check.faulty(BASE + "bridge y by a to b long 0", 4, end + 24);
        Check.faulty(BASE + "take u at x on all coin 0", 4, end + 24);
        Check.faulty(BASE + "take u at x on all coin 100", 4, end + 24);
        Check.faulty(BASE + "cart k of m with g own loads 0", 4, end + 29);
        Check.faulty(BASE + "cart k of m with g own loads 100", 4, end + 29);
        Check.faulty(BASE + "as u for a like b day 9 to 8", 4, end + 27);
        Check.faulty(BASE + "as u for a like b day 9 to 30", 4, end + 27);
        Check.faulty(BASE + "free u for a on g own day 999 to 998", 4, end + 33);
        TollBars x = Check.sound(BASE + "as u for a like b day 9 to 29;take v at x on g coin 99 day 0 to 20;"
            + "free h for a on all own day 990 to 999;free i for a on all own day 7 to 7" + LAW);
        Check.due("as last", x.grant(13, 1), 29);
        Check.due("take last", x.grant(1, 1), 20);
        Check.due("free last", x.grant(7, 1), 999);
        Check.due("free of one day", x.grant(8, 0) * 1000 + x.grant(8, 1), 7007);
    }

    /** Just as many lines of each sort as there is room for, then one more: only its first word is needed. */
    private static void many() {
        fill("place ?;", 6, "place");
        fill("goods ?;", 3, "goods");
        fill("man ? of a since 1;", 5, "man");
        fill("road a to b long 1;", 12, "road");
        fill("bridge ? by a to b long 1;", 7, "bridge");
        fill("take ? at x on all coin 1 day 1;", 5, "take");
        fill("free ? for a on all own day 1;", 5, "free");
        fill("as ? for a like b day 1;", 3, "as");
        fill("renew t same day 1;", 4, "renew");
        fill("law ? older own alike copies;", 3, "law");
        fill("cart ? of m with g own loads 1 from a to b day 1;", 6, "cart");
        String four = "take u at x on all coin 1 day 1;lost t;lost u;lost f;lost s;";
        Check.sound(BASE + four + "law l older own alike copies");
        Check.faulty(BASE + four + "lost", 5, BASE.length() + four.length());
    }

    private static void fill(String line, int times, String word) {
        StringBuilder text = new StringBuilder(BASE);
        for (int i = 0; i < times; i++) {
            text.append(line.replace("?", "q" + (char) ('a' + i)));
        }
        if (!word.equals("law")) {
            Check.sound(text + "law l older own alike copies");
        } else {
            Check.sound(text.substring(0, text.length() - 1));
        }
        Check.faulty(text + word, 5, text.length());
    }

    private static void lacks() {
        Check.faulty("place a;place b", 6, 15);
        Check.faulty("place a;place b  ", 6, 17);
        Check.faulty("place a" + LAW, 6, 36);
        Check.faulty("law l older own alike copies", 6, 28);
        Check.faulty("goods a", 6, 7);
    }

    public static void main(String[] args) {
        newObject();
        tape();
        realmStaysOrComes();
        cutShort();
        everySort();
        tokens();
        form();
        names();
        bounds();
        many();
        lacks();
        Check.end("RealmTest");
    }
}
