/** Promises 1 to 5, 30: the new object, the tape, what a realm() leaves and what it takes away. */
final class TapeEdges {
    private static final String TWO = "place a;place b;";
    private static final String LAW = "law l older own alike copies";
    private static final String WHOLE = TWO + "goods g;bridge x by a to b long 2;man m of a since 5;"
        + "take t at x on all coin 3 day 10 to 12;free f for b on g both day 11;as s for a like b day 20;"
        + "renew t less day 40;lost s;" + LAW + ";cart k of m with g own loads 2 from a to b day 30";
    private static final int MIN = Integer.MIN_VALUE;
    private static final int MAX = Integer.MAX_VALUE;

    private TapeEdges() {
    }

    static void all() {
        newObject();
        fiveHundredAndTwelve();
        bytesInOrder();
        fullTape();
        wholeTape();
        numberOutOfBounds();
        emptyThen();
        howManyPlaces();
        realmStays();
        nothingOfTheOldOne();
        fewerThanBefore();
        latestFault();
        whereTheFaultIs();
        sizes();
    }

    private static void refused(String call, TollBars x, int got, int none, int trouble) {
        Check.due(call, got, none);
        Check.due(call + ": trouble()", x.trouble(), trouble);
    }

    private static void newObject() {
        Sentence.promise(1, "No REALM.");
        TollBars x = new TollBars();
        Check.due("trouble() ahead of all", x.trouble(), 0);
        Check.due("fault()", x.fault(), 0);
        Check.due("where()", x.where(), -1);
        for (int what = 0; what <= 11; what++) {
            Check.due("size(" + what + ")", x.size(what), 0);
        }
        refused("owes", x, x.owes(0, 0, 0, 0), -1, 1);
        refused("owes on no day", x, x.owes(0, 0, -1, 0), -1, 1);
        refused("wins", x, x.wins(0, 0, 0, 0), -1, 1);
        refused("judge", x, x.judge(0, 0, 0, 0, 0), -1, 1);
        refused("sure", x, x.sure(0, 0, 0, 0, true), -1, 1);
        refused("force", x, x.force(0, 0, 0), -1, 1);
        refused("chain", x, x.chain(0, 0, 0, 0), -1, 1);
        refused("ring", x, x.ring(0, 0, 0), -1, 1);
        refused("way", x, x.way(0, 0), -1, 1);
        refused("partner", x, x.partner(0, 0), -1, 1);
        refused("saves", x, x.saves(0, 0, 0), -1000000, 1);
        refused("coin", x, x.coin(0), -1, 1);
        refused("worth", x, x.worth(0, 0), -1000000, 1);
        refused("hangs", x, x.hangs(0), -1, 1);
        refused("moves", x, x.moves(0, 0), -1, 1);
        refused("brings", x, x.brings(0, 0, 0, 0), -1000000, 1);
        refused("part", x, x.part(0, 0), -1, 1);
        refused("lose", x, x.lose(0, true) ? 1 : 0, 0, 1);
        refused("find", x, x.find(0) ? 1 : 0, 0, 1);
        refused("date", x, x.date(0, 0) ? 1 : 0, 0, 1);
        refused("date on no day", x, x.date(0, 1000) ? 1 : 0, 0, 1);
        Check.due("grant", x.grant(0, 0), -1);
        Check.due("cart", x.cart(0, 0), -1);
        Check.due("stop", x.stop(0), -1);
        Check.due("length", x.length(), -1);
        Check.due("led", Check.led(x, 0), -7);
    }

    /** The 512th call answers as the first: 10 feeds, a realm, 500 of coin and a last one. */
    private static void fiveHundredAndTwelve() {
        Sentence.preamble("An object is used for at most 512 calls after it has been made");
        TollBars x = new TollBars();
        String text = TWO + "goods g;bridge x by a to b long 2;man m of a since 5;take t at x on all coin 3 day 10;" + LAW
            + ";cart k of m with g own loads 2 from a to b day 30";
        int calls = (text.length() + 19) / 20 + 1;
        Check.feed(x, text);
        Check.due("realm", x.realm(text.length()), 2);
        for (; calls < 511; calls++) {
            Check.due("call " + calls, x.coin(0), 6);
        }
        Check.due("call 512", x.way(0, 0), 6);
    }

    /** A byte that begins no token tells by its place where it came onto the tape. */
    private static void bytesInOrder() {
        Sentence.promise(2, "Twenty bytes come behind THE TAPE, of each number the highest first");
        for (int at = 0; at < 20; at++) {
            int[] five = {0x20202020, 0x20202020, 0x20202020, 0x20202020, 0x20202020};
            int shift = 24 - 8 * (at % 4);
            five[at / 4] = 0x20202020 & ~(255 << shift) | 255 << shift;
            TollBars x = new TollBars();
            Check.due("feed of blanks", x.feed(0x20202020, 0x20202020, 0x20202020, 0x20202020, 0x20202020), 20);
            Check.due("feed", x.feed(five[0], five[1], five[2], five[3], five[4]), 40);
            Check.due("realm", x.realm(40), -1);
            Check.due("fault() of byte " + at, x.fault(), 1);
            Check.due("where() of byte " + at, x.where(), 20 + at);
        }
        TollBars x = new TollBars();
        // "plac", "e a;", "plac", "e b;", "law ", then " l o" and so on.
        Check.due("feed", x.feed(0x706c6163, 0x6520613b, 0x706c6163, 0x6520623b, 0x6c617720), 20);
        Check.feed(x, "l older own alike copies");
        Check.due("realm of numbers", x.realm(44), 2);
    }

    private static void fullTape() {
        Sentence.promise(2, "how many it has; NONE, and none comes, if there would be more than 900");
        TollBars x = new TollBars();
        String text = TWO + LAW;
        Check.feed(x, text);
        for (int has = x.size(11) + 20; has <= 900; has += 20) {
            Check.due("feed to " + has, x.feed(0x20202020, 0x20202020, 0x20202020, 0x20202020, 0x20202020), has);
        }
        Check.due("trouble() of a tape of 900", x.trouble(), 0);
        for (int i = 0; i < 3; i++) {
            Check.due("feed beyond 900", x.feed(-1, -1, -1, -1, -1), -1);
            Check.due("it has 900 still", x.size(11), 900);
            Check.due("feed() tells no number, so trouble() stays", x.trouble(), 0);
        }
        Check.due("none of those came", x.realm(900), 2);
        Check.due("and it takes 20 again", x.feed(0, 0, 0, 0, 0), 20);
    }

    private static void wholeTape() {
        Sentence.term(1, "THE TAPE has 900 bytes");
        StringBuilder text = new StringBuilder(TWO);
        while (text.length() < 900 - LAW.length()) {
            text.append(' ');
        }
        TollBars x = new TollBars();
        Check.due("a realm whose last byte is the tape's", Check.realm(x, text + LAW), 2);
        TollBars y = new TollBars();
        Check.feed(y, text + LAW);
        Check.due("all but the last byte", y.realm(899), -1);
        Check.due("fault", y.fault(), 1);
        Check.due("where", y.where(), 894);
        Check.faulty(" ".repeat(900), 1, 900);
        Check.faulty(" ".repeat(899) + ";", 1, 899);
    }

    private static void numberOutOfBounds() {
        Sentence.promise(3, "NONE: 2 (THE TAPE stays)");
        TollBars x = new TollBars();
        refused("realm(1) of an empty tape", x, x.realm(1), -1, 2);
        refused("realm(-1) of an empty tape", x, x.realm(-1), -1, 2);
        String text = TWO + LAW;
        Check.feed(x, text);
        int[] wrong = {-1, 61, 900, 901, MIN, MAX};
        for (int n : wrong) {
            refused("realm(" + n + ") of 60 bytes", x, x.realm(n), -1, 2);
            Check.due("the tape has 60 still", x.size(11), 60);
            Check.due("there is no realm", x.size(0), 0);
        }
        Check.due("realm(60)", x.realm(60), 2);
        Check.due("trouble()", x.trouble(), 0);
        Check.feed(x, text);
        refused("realm(61) with a realm", x, x.realm(61), -1, 2);
        Check.due("the realm stays", x.size(0), 2);
        Check.due("realm(44)", x.realm(44), 2);
    }

    private static void emptyThen() {
        Sentence.promise(3, "The first n bytes of THE TAPE (it is empty then) are the REALM from now on");
        TollBars x = new TollBars();
        Check.feed(x, TWO + LAW + ";place c");
        Check.due("the first 44 of 60", x.realm(44), 2);
        Check.due("the other 16 are gone", x.size(11), 0);
        refused("realm(1)", x, x.realm(1), -1, 2);
        Check.due("feed", x.feed(0, 0, 0, 0, 0), 20);
        refused("realm(0) of 20 bytes", x, x.realm(0), -1, 4);
        Check.due("empty behind a fault too", x.size(11), 0);
        Check.due("fault of no bytes", x.fault(), 1);
        Check.due("where of no bytes", x.where(), 0);
        refused("realm(0) of none", x, x.realm(0), -1, 4);
        Check.due("the realm", x.size(0), 2);
    }

    private static void howManyPlaces() {
        Sentence.promise(3, "how many places");
        StringBuilder places = new StringBuilder("place pa;");
        for (int count = 2; count <= 8; count++) {
            places.append("place p" + (char) ('a' + count - 1) + ";");
            TollBars x = new TollBars();
            Check.due("realm of " + count, Check.realm(x, places + LAW), count);
            Check.due("size(0)", x.size(0), count);
        }
    }

    /** Each of these faults comes behind lines that were read, none of which may be seen. */
    private static void realmStays() {
        Sentence.promise(3, "4 (the REALM stays)");
        String other = "place c;place d;place e;goods h;goods i;bridge y by c to d long 9;man n of d since 9;"
            + "take u at y on h coin 7 day 3;take v at y on h coin 8 day 4;lost u;free w for c on h own day 3;"
            + "law o later given named papers;cart q of n with h trade loads 9 from d to c day 9;";
        String[] faults = {"?", "road c to z", "place c", "road c to d long 0"};
        TollBars x = Check.sound(WHOLE);
        Check.due("way", x.way(0, 0), 6);
        for (String fault : faults) {
            refused("realm with " + fault, x, Check.realm(x, other + fault), -1, 4);
            asBefore(x);
        }
        refused("realm with too many", x, Check.realm(x, "law p older own alike copies;law q older own alike copies;"
            + "law r older own alike copies;law"), -1, 4);
        asBefore(x);
        refused("realm that lacks", x, Check.realm(x, "goods j"), -1, 4);
        asBefore(x);
    }

    private static void asBefore(TollBars x) {
        int[] sizes = {2, 1, 1, 0, 1, 1, 1, 1, 1, 1, 1, 0};
        for (int what = 0; what < sizes.length; what++) {
            Check.due("size(" + what + ")", x.size(what), sizes[what]);
        }
        int[] take = {10, 12, 0, 0, -2, 3, 1};
        int[] free = {11, 11, 0, 1, 0, 2, 0};
        int[] as = {20, 20, 1, 0, 1, 0, 0};
        int[] cart = {0, 0, 0, 2, 0, 1, 30};
        for (int what = 0; what < 7; what++) {
            Check.due("grant(0, " + what + ")", x.grant(0, what), take[what]);
            Check.due("grant(6, " + what + ")", x.grant(6, what), free[what]);
            Check.due("grant(12, " + what + ")", x.grant(12, what), as[what]);
            Check.due("cart(0, " + what + ")", x.cart(0, what), cart[what]);
        }
        Check.due("grant(1, 0)", x.grant(1, 0), -1);
        Check.due("owes", x.owes(0, 0, 30, 0), 6);
        Check.due("owes by the renewal", x.owes(0, 0, 40, 0), 2);
        Check.due("the way that was told", x.stop(1), 1);
        Check.due("its length", x.length(), 2);
        Check.due("its bridge", Check.led(x, 0), 0);
    }

    private static void nothingOfTheOldOne() {
        Sentence.promise(3, "are the REALM from now on (no WAY is told)");
        TollBars x = Check.sound(WHOLE);
        Check.due("way", x.way(0, 0), 6);
        Check.due("lose", x.lose(0, true), true);
        // The third realm is read where the first one stood.
        for (int i = 0; i < 3; i++) {
            String again = TWO + "goods g;man m of a since 0;bridge x by a to b long 1;take t at x on g coin 1 day 5;"
                + "free f for b on g own day 2;as s for a like b day 1;" + LAW
                + ";cart k of m with g own loads 1 from a to b day 30";
            Check.due("realm", Check.realm(x, again), 2);
            Check.due("no place of a way", x.stop(0), -1);
            Check.due("no length", x.length(), -1);
            Check.due("no bridge", Check.led(x, 0), -7);
            Check.due("t isn't lost", x.grant(0, 2), 0);
            Check.due("s isn't lost", x.grant(12, 2), 0);
            Check.due("t has no renewal", x.grant(0, 6), 0);
            Check.due("t has no span", x.grant(0, 1), 5);
            Check.due("a way without toll", x.way(0, 0), 0);
            Check.due("lose all", x.lose(0, true) && x.lose(6, false) && x.lose(12, false), true);
        }
        Check.due("realm of places alone", Check.realm(x, TWO + LAW), 2);
        refused("no span is left", x, x.hangs(0), -1, 6);
        Check.due("no grant is left", x.grant(0, 0), -1);
        Check.due("no cart is left", x.cart(0, 0), -1);
        Check.due("no coin", x.coin(0), 0);
        noDaysOfTheOldOne();
    }

    /** Days of grants that the third realm hasn't may not be counted among its choices. */
    private static void noDaysOfTheOldOne() {
        String land = TWO + "goods g;man m of a since 0;bridge x by a to b long 1;" + LAW
            + ";cart k of m with g own loads 1 from a to b day 30;";
        TollBars x = Check.sound(land + "as p for a like b day 5;free f for a on g own day 9 to 29;take t at x on g coin 1 day 1");
        Check.due("the second realm", Check.realm(x, TWO + LAW), 2);
        Check.due("the third realm", Check.realm(x, land + "take t at x on g coin 1 day 0 to 20;take u at x on g coin 1 day 0 to 20;"
            + "take v at x on g coin 1 day 0 to 20"), 2);
        refused("9,261 choices", x, x.sure(0, 0, 30, 0, true), -1, 3);
        Check.due("a take's day is known", x.date(2, 30), true);
        Check.due("441 choices", x.sure(0, 0, 30, 0, true), 3);
        Check.due("hangs", x.hangs(0), 0);
    }

    /** A small realm behind two great ones answers every call as it does on a new object. */
    private static void fewerThanBefore() {
        Sentence.promise(3, "are the REALM from now on");
        String great = "place a;place b;place c;goods g;goods h;bridge x by a to b long 2;bridge y by a to b long 1;road b to c long 9;"
            + "road a to c long 1;man m of a since 0;man n of b since 0;take t at x on all coin 3 day 0 to 9;"
            + "take u at x on g coin 9 day 0 to 9;take v at y on g coin 9 day 0;free f for b on all both day 0 to 9;"
            + "free w for a on all both day 0;as s for b like a day 0 to 9;as r for a like b day 0;renew t more day 0;"
            + "renew f less day 1;law l older own alike copies;law o later given named papers;"
            + "cart k of m with g own loads 9 from a to b day 9;cart q of n with h own loads 9 from b to c day 9";
        String[] small = {
            TWO + LAW,
            TWO + "goods g;man m of a since 0;" + LAW + ";cart k of m with g own loads 1 from a to b day 9",
            TWO + "goods g;man m of a since 0;bridge x by a to b long 2;take t at x on g coin 1 day 5;" + LAW
                + ";cart k of m with g own loads 1 from a to b day 9",
            TWO + "goods g;man m of a since 0;bridge x by a to b long 2;take t at x on g coin 1 day 5 to 8;"
                + "free f for b on g own day 4;" + LAW + ";cart k of m with g own loads 1 from a to b day 9",
            TWO + "goods g;man m of a since 0;bridge x by a to b long 2;take t at x on g coin 1 day 5;"
                + "free f for b on g own day 4;as s for a like b day 7;" + LAW
                + ";cart k of m with g own loads 1 from a to b day 9"};
        for (String text : small) {
            for (int law = -1; law < 3; law++) {
                for (int number = -1; number < 17; number++) {
                    TollBars used = afterTwo(great);
                    Check.due("a small realm", Check.realm(used, text), 2);
                    int[] got = answers(used, number, law);
                    int[] want = answers(Check.sound(text), number, law);
                    for (int i = 0; i < want.length; i++) {
                        Check.due("answer " + i + " of " + number + " by " + law + " in '" + text + "'", got[i], want[i]);
                    }
                }
            }
        }
    }

    /** An object with two great realms behind it, so that both of its rooms have been used. */
    private static TollBars afterTwo(String great) {
        TollBars used = new TollBars();
        for (int i = 0; i < 2; i++) {
            Check.due("a great realm", Check.realm(used, great), 3);
            Check.due("its coin", used.coin(0) >= 0, true);
            Check.due("its way", used.way(1, 1) >= 0, true);
            Check.due("its losses", used.lose(1, false) && used.lose(13, true), true);
            Check.due("its chain", used.chain(0, 9, 0, 0), 1);
        }
        return used;
    }

    /** What all calls that look answer of a number and a law, and their troubles. */
    private static int[] answers(TollBars x, int number, int law) {
        int[] answers = new int[200];
        int n = 0;
        for (int other = -1; other < 3; other++) {
            for (int day = 0; day < 12; day += 3) {
                answers[n++] = x.owes(number, other, day, law);
                answers[n++] = x.wins(number, other, day, law);
                answers[n++] = x.sure(number, other, day, law, true);
                answers[n++] = x.sure(number, other, day, law, false);
                answers[n++] = x.trouble();
                answers[n++] = x.chain(number, day, law, other);
            }
            answers[n++] = x.saves(number, other, law);
            answers[n++] = x.part(law, other);
        }
        answers[n++] = x.partner(number, law);
        answers[n++] = x.ring(number, 9, law);
        answers[n++] = x.way(number, law);
        answers[n++] = x.trouble();
        answers[n++] = x.length();
        for (int i = 0; i < 7; i++) {
            answers[n++] = x.stop(i);
            answers[n++] = Check.led(x, i);
            answers[n++] = x.cart(number, i);
            answers[n++] = x.grant(number, i);
        }
        answers[n++] = x.worth(number, law);
        answers[n++] = x.moves(number, law);
        answers[n++] = x.brings(number, 1, 5, law);
        answers[n++] = x.force(number, 5, law);
        answers[n++] = x.coin(law);
        answers[n++] = x.hangs(law);
        answers[n++] = x.trouble();
        answers[n++] = x.size(number);
        return answers;
    }

    private static void latestFault() {
        Sentence.promise(4, "The FAULT of the latest realm() not refused by 2; 0 without one.");
        TollBars x = new TollBars();
        Check.due("without a realm()", x.fault(), 0);
        x.realm(1);
        Check.due("behind one refused by 2", x.fault(), 0);
        String[] texts = {"", "road a", "place a;goods a", TWO + "road a to b long 0", "law a older own alike copies;"
            + "law b older own alike copies;law c older own alike copies;law", "place a"};
        for (int number = 1; number <= 6; number++) {
            Check.due("realm", Check.realm(x, texts[number - 1]), -1);
            Check.due("fault()", x.fault(), number);
            x.realm(1);
            Check.due("fault() behind one refused by 2", x.fault(), number);
            x.coin(0);
            Check.due("fault() behind another call", x.fault(), number);
        }
        Check.due("realm", Check.realm(x, TWO + LAW), 2);
        Check.due("behind one that wasn't refused", x.fault(), 0);
        x.realm(-1);
        Check.due("behind one refused by 2", x.fault(), 0);
    }

    private static void whereTheFaultIs() {
        Sentence.promise(5, "Its place, if the latest call that may be refused was by 4; NONE else.");
        TollBars x = new TollBars();
        Check.due("without a call", x.where(), -1);
        Check.due("realm", Check.realm(x, "place a;place a"), -1);
        Check.due("where", x.where(), 14);
        x.feed(0, 0, 0, 0, 0);
        x.fault();
        x.size(0);
        x.stop(0);
        x.length();
        x.grant(0, 0);
        x.cart(0, 0);
        x.trouble();
        Check.led(x, 0);
        Check.due("where behind calls that aren't refused by a number", x.where(), 14);
        x.realm(21);
        Check.due("where behind a realm() refused by 2", x.where(), -1);
        Check.due("realm", Check.realm(x, ""), -1);
        Check.due("realm", x.realm(0), -1);
        Check.due("where at 0", x.where(), 0);
        x.coin(0);
        Check.due("where behind a call refused by 1", x.where(), -1);
        Check.due("realm", Check.realm(x, TWO + LAW), 2);
        Check.due("where behind one that wasn't refused", x.where(), -1);
        Check.due("realm", Check.realm(x, "place"), -1);
        Check.due("where", x.where(), 5);
        x.coin(0);
        Check.due("where behind a call that wasn't refused", x.where(), -1);
        Check.due("the fault is told still", x.fault(), 1);
    }

    private static void sizes() {
        Sentence.promise(30, "NONE for others; 0 for what there isn't.");
        TollBars x = Check.sound(TWO + LAW);
        int[] sizes = {2, 0, 0, 0, 0, 0, 0, 0, 0, 1, 0, 0};
        for (int what = 0; what < sizes.length; what++) {
            Check.due("size(" + what + ")", x.size(what), sizes[what]);
        }
        int[] others = {-1, 12, -2, 13, MIN, MAX};
        for (int what : others) {
            Check.due("size(" + what + ")", x.size(what), -1);
        }
        Sentence.promise(30, "0 places, 1 goods, 2 men, 3 roads, 4 bridges, 5 takes, 6 frees, 7 as, 8 renewals, 9 laws, 10 carts, "
            + "11 bytes of THE TAPE");
        // As many of each sort as no other has, as far as their rooms allow.
        TollBars many = Check.sound("place a;place b;place c;place d;place e;goods g;goods h;goods i;man m of a since 0;"
            + "road a to b long 1;road a to b long 1;road a to b long 1;road a to b long 1;bridge x by a to b long 1;"
            + "bridge y by a to b long 1;take t at x on g coin 1 day 1;take u at x on g coin 1 day 1;take v at x on g coin 1 day 1;"
            + "free f for a on g own day 1;as s for a like b day 1;as r for a like b day 1;renew t same day 1;renew t same day 1;"
            + "renew t same day 1;renew t same day 1;lost t;" + LAW + ";law n older own alike copies;"
            + "cart k of m with g own loads 1 from a to b day 1");
        int[] each = {5, 3, 1, 4, 2, 3, 1, 2, 4, 2, 1, 0};
        for (int what = 0; what < each.length; what++) {
            Check.due("size(" + what + ")", many.size(what), each[what]);
        }
        Sentence.promise(30, "11 bytes of THE TAPE");
        x.feed(0, 0, 0, 0, 0);
        Check.due("size(11)", x.size(11), 20);
        Sentence.promise(30, "8 renewals, 9 laws, 10 carts");
        TollBars y = Check.sound(WHOLE + ";lost t;lost f;renew f same day 3;renew t same day 3;law n later own alike copies;"
            + "law o later own alike copies;cart p of m with g own loads 1 from a to b day 1");
        Check.due("size(8), of losses there are as many", y.size(8), 3);
        Check.due("size(9)", y.size(9), 3);
        Check.due("size(10)", y.size(10), 2);
    }
}
