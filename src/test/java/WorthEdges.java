/** Worth: promises 18 to 23, with what Terms II and III say of coin, worth, days and renewals. */
final class WorthEdges {
    private static final int NO_SUM = -1000000;
    private static final String LAND = "place a;place b;place c;goods w;goods v;bridge x by a to b long 2;man m of a since 0;";
    private static final String LAWS = "law l older own alike copies;law n later own alike papers;";
    private static final String CART = "cart k of m with w own loads 4 from a to b day 30";

    private WorthEdges() {
    }

    static void all() {
        coins();
        mostCoin();
        worths();
        noSpan();
        hanging();
        sixteenSpans();
        moving();
        bringing();
        bringingBehindAll();
        fullOfRenewals();
        parting();
    }

    private static void coins() {
        Sentence.term(2, "(of one without a WAY 0)");
        TollBars bare = Check.sound("place a;place b;" + LAWS + "goods w");
        Check.due("coin without carts", bare.coin(0), 0);
        Check.due("trouble()", bare.trouble(), 0);
        TollBars x = Check.sound(LAND + "take t at x on w coin 3 day 10;" + LAWS + CART
            + ";cart p of m with w own loads 9 from a to c day 30;cart q of m with w own loads 1 from b to a day 10");
        Check.due("one of three has no way", x.coin(0), 15);
        Check.due("trouble()", x.trouble(), 0);
        Sentence.promise(18, "COIN.");
        Check.due("by the last law", x.coin(1), 15);
    }

    private static void mostCoin() {
        Sentence.term(2, "COIN of a LAW: OWES of all carts' CHEAPEST WAYS together");
        StringBuilder text = new StringBuilder(LAND);
        for (char c = 'a'; c < 'g'; c++) {
            text.append("take t" + c + " at x on all coin 99 day 0;");
        }
        for (char c = 'a'; c < 'g'; c++) {
            text.append("cart k" + c + " of m with w own loads 99 from a to b day 999;");
        }
        TollBars x = Check.sound(text + "law l older own alike copies");
        Check.due("six carts, six takes", x.coin(0), 352836);
        Check.due("worth", x.worth(5, 0), -58806);
        Check.due("brings less", x.brings(5, 2, 999, 0), -50 * 99 * 6);
    }

    private static void worths() {
        Sentence.term(3, "WORTH: COIN if it were lost without a copy, less COIN");
        TollBars x = Check.sound(LAND + "take t at x on w coin 3 day 10;take u at x on w coin 2 day 31;"
            + "free f for b on w own day 9;as s for a like b day 8;" + LAWS + CART);
        Check.due("a take that is won against", x.worth(0, 0), 0);
        Check.due("one that isn't in force yet", x.worth(1, 0), 0);
        Check.due("a free", x.worth(6, 0), 12);
        Check.due("an as", x.worth(12, 0), 12);
        Check.due("by the other law the take", x.worth(0, 1), -12);
        Check.due("trouble()", x.trouble(), 0);
        Check.due("nothing is lost", x.grant(6, 2) + x.grant(0, 2) + x.grant(12, 2), 0);
        Check.due("lose f, copied", x.lose(6, true), true);
        Check.due("a copied one by copies", x.worth(6, 0), 12);
        Check.due("a copied one by papers", x.worth(6, 1), 0);
        Check.due("it stays copied", x.grant(6, 2), 2);
        Check.due("find f", x.find(6), true);
        Check.due("lose f", x.lose(6, false), true);
        Check.due("one that is lost", x.worth(6, 0), 0);
        Check.due("it stays lost", x.grant(6, 2), 1);
        Sentence.promise(19, "WORTH of a GRANT.");
        Check.due("the take now", x.worth(0, 0), -12);
    }

    private static void noSpan() {
        Sentence.promise(20, "6 (no GRANT has a span)");
        TollBars none = Check.sound("place a;place b;" + LAWS + "goods w");
        Check.due("without grants", none.hangs(0), -1);
        Check.due("trouble()", none.trouble(), 6);
        Check.due("of no law", none.hangs(2), -1);
        Check.due("trouble()", none.trouble(), 1);
        TollBars x = Check.sound(LAND + "take t at x on w coin 3 day 10;free f for a on w own day 3 to 3;"
            + "as s for a like b day 9 to 10;" + LAWS + CART);
        Check.due("an as with a span, though no coin hangs on it", x.hangs(0), 12);
        Check.due("trouble()", x.trouble(), 0);
        Check.due("its day is known", x.date(12, 10), true);
        Check.due("hangs", x.hangs(0), -1);
        Check.due("trouble()", x.trouble(), 6);
    }

    private static void hanging() {
        Sentence.term(3, "COIN is most less least greatest, the first such");
        // Each take is owed if its day isn't behind the cart's; so 4, 8, 8 and 0 hang on them.
        TollBars x = Check.sound(LAND + "take t at x on w coin 1 day 30 to 31;take u at x on w coin 2 day 20 to 40;"
            + "take p at x on w coin 2 day 30 to 31;take q at x on w coin 9 day 10 to 30;lost q;" + LAWS + CART);
        Check.due("hangs", x.hangs(0), 1);
        Check.due("date u", x.date(1, 5), true);
        Check.due("hangs", x.hangs(0), 2);
        Check.due("date p", x.date(2, 31), true);
        Check.due("hangs", x.hangs(0), 0);
        Check.due("date t", x.date(0, 0), true);
        Check.due("the lost one has a span still", x.hangs(0), 3);
        Check.due("date q", x.date(3, 0), true);
        Check.due("hangs", x.hangs(0), -1);
        Sentence.term(3, "(all others' first ones)");
        // f of 9 wins against all days of t; f of 12 would lose to t of 10 or 11 alone.
        TollBars y = Check.sound(LAND + "take t at x on w coin 3 day 10 to 12;free f for a on w own day 9 to 12;" + LAWS + CART);
        Check.due("moves t with f of 9", y.moves(0, 0), 0);
        Check.due("moves f with t of 10", y.moves(6, 0), 12);
        Check.due("hangs", y.hangs(0), 6);
        Check.due("f is of 12", y.date(6, 12), true);
        Check.due("moves t with f of 12", y.moves(0, 0), 12);
        Check.due("hangs", y.hangs(0), 0);
        Check.due("the spans stay", y.grant(0, 0) * 100 + y.grant(0, 1), 1012);
    }

    private static void sixteenSpans() {
        Sentence.promise(20, "HANGS.");
        StringBuilder text = new StringBuilder(LAND);
        for (char c = 'a'; c < 'g'; c++) {
            text.append("take t" + c + " at x on w coin 1 day 0 to 20;free f" + c + " for c on w own day 0 to 20;");
        }
        text.append("as sa for b like c day 0 to 20;as sb for b like c day 0 to 20;as sc for b like c day 0 to 20;"
            + "as sd for a like c day 0 to 20;law l older own alike copies;");
        TollBars x = Check.sound(text + "cart k of m with w own loads 1 from a to b day 19");
        // All frees are of 0 and reach a man of a by the last as; on day 20 of it none does.
        Check.due("hangs", x.hangs(0), 15);
        Check.due("moves 15", x.moves(15, 0), 6);
        for (int g = 0; g < 15; g++) {
            Check.due("moves " + g, x.moves(g, 0), 0);
        }
        Check.due("coin", x.coin(0), 0);
    }

    private static void moving() {
        Sentence.promise(21, "Over a GRANT's DAYS: most COIN less least.");
        int[][] spans = {{29, 30, 0}, {30, 30, 0}, {30, 31, 12}, {31, 31, 0}, {31, 51, 0}, {10, 30, 0}, {11, 31, 12}, {979, 999, 0}};
        for (int[] s : spans) {
            TollBars x = Check.sound(LAND + "take t at x on w coin 3 day " + s[0] + " to " + s[1] + ";" + LAWS + CART);
            Check.due("moves of " + s[0] + " to " + s[1], x.moves(0, 0), s[2]);
            Check.due("trouble()", x.trouble(), 0);
            Check.due("its day is known", x.date(0, s[1]), true);
            Check.due("moves of one day", x.moves(0, 0), 0);
        }
        // Most on a day between the first and the last: t of 11 alone is owed.
        TollBars y = Check.sound(LAND + "take t at x on w coin 3 day 10 to 12;free f for a on w own day 10;free h for a on w own "
            + "day 12;law l older own alike copies;law n later own alike papers;" + CART);
        Check.due("by older f wins on each", y.moves(0, 0), 0);
        Check.due("lose f", y.lose(6, false), true);
        Check.due("by older h wins on the last", y.moves(0, 0), 12);
        Check.due("by later h wins on each", y.moves(0, 1), 0);
    }

    private static void bringing() {
        Sentence.promise(22, "a RENEWAL of a take or a free (how 0 same, 1 more, 2 less) on a day");
        TollBars x = Check.sound(LAND + "take t at x on w coin 5 day 10;take u at x on v coin 7 day 10;"
            + "free f for a on w trade day 10;" + LAWS + CART);
        // By older f of 10 would win against t if it were for his own.
        int[][] want = {{0, 0, 0}, {0, 28, 0}, {0, -20, -20}};
        int[] grants = {0, 1, 6};
        for (int g = 0; g < 3; g++) {
            for (int how = 0; how < 3; how++) {
                int due = g == 0 && how == 2 ? -12 : want[g][how];
                Check.due("brings(" + grants[g] + ", " + how + ") on 0", x.brings(grants[g], how, 0, 0), due);
                Check.due("trouble()", x.trouble(), 0);
                Check.due("brings(" + grants[g] + ", " + how + ") on 30", x.brings(grants[g], how, 30, 0), due);
                Check.due("brings(" + grants[g] + ", " + how + ") on 31", x.brings(grants[g], how, 31, 0), 0);
                Check.due("brings(" + grants[g] + ", " + how + ") on 999", x.brings(grants[g], how, 999, 0), 0);
            }
        }
        Check.due("coin is as before", x.coin(0), 20);
        Check.due("none has come", x.grant(0, 6) + x.size(8), 0);
        Check.due("of an as", x.brings(12, 0, 0, 0), NO_SUM);
        Check.due("lose t", x.lose(0, false), true);
        Check.due("a renewal brings no lost one back", x.brings(0, 1, 20, 0), 0);
    }

    private static void bringingBehindAll() {
        Sentence.term(3, "BRINGS: COIN if a RENEWAL came behind all others, less COIN");
        TollBars x = Check.sound(LAND + "take t at x on w coin 5 day 10;renew t less day 20;renew t less day 15;" + LAWS + CART);
        Check.due("coin", x.coin(0), 8);
        Check.due("of an earlier day it gives way", x.brings(0, 0, 19, 0), 0);
        Check.due("of the like day it is the latest line", x.brings(0, 0, 20, 0), 12);
        Check.due("of a later day", x.brings(0, 0, 21, 0), 12);
        Check.due("behind the cart's day", x.brings(0, 0, 31, 0), 0);
        // By later a renewal makes the take as late as itself, and the free it loses to too.
        TollBars y = Check.sound(LAND + "take t at x on w coin 5 day 10;free f for a on w own day 12;" + LAWS + CART);
        Check.due("by later t renewed on 12", y.brings(0, 0, 12, 1), 0);
        Check.due("by later t renewed on 13", y.brings(0, 0, 13, 1), 20);
        Check.due("by later f renewed on 9", y.brings(6, 0, 9, 1), 20);
        Check.due("by later f renewed on 10", y.brings(6, 0, 10, 1), 0);
        Check.due("by older t renewed on 13", y.brings(0, 0, 13, 0), 0);
    }

    private static void fullOfRenewals() {
        Sentence.promise(22, "BRINGS");
        TollBars x = Check.sound(LAND + "take t at x on w coin 5 day 10;renew t less day 20;renew t same day 21;"
            + "renew t less day 22;renew t less day 30;" + LAWS + CART);
        Check.due("four renewals", x.grant(0, 6), 4);
        Check.due("a fifth", x.brings(0, 0, 30, 0), 12);
        Check.due("trouble()", x.trouble(), 0);
        Check.due("four renewals still", x.size(8), 4);
        Check.due("coin", x.coin(0), 8);
    }

    private static void parting() {
        Sentence.promise(23, "the first cart and bridge (on the cart's day) where it OWES unlike");
        String text = "place a;place b;goods w;man m of a since 0;bridge x by a to b long 2;bridge y by a to b long 1;"
            + "take t at y on w coin 3 day 10;take u at x on w coin 3 day 10;free f for a on w own day 12;" + LAWS;
        TollBars x = Check.sound(text + "cart p of m with w own loads 1 from a to b day 11;" + CART);
        // On 11 the free isn't in force, so both laws have the first cart owe alike.
        Check.due("the second cart at the first bridge", x.part(0, 1), 10);
        Check.due("lose u", x.lose(1, false), true);
        Check.due("the second cart at the second bridge", x.part(0, 1), 11);
        Check.due("f of 11", x.date(6, 11), true);
        Check.due("the first cart at the second bridge", x.part(0, 1), 1);
        Check.due("turned about", x.part(1, 0), 1);
        Check.due("find u", x.find(1), true);
        Check.due("the first cart at the first bridge", x.part(0, 1), 0);
        Check.due("trouble()", x.trouble(), 0);
        Check.due("lose f", x.lose(6, false), true);
        Check.due("they don't", x.part(0, 1), -2);
        Check.due("trouble()", x.trouble(), 0);
        TollBars bare = Check.sound("place a;place b;" + LAWS + "goods w");
        Check.due("without carts", bare.part(0, 1), -2);
    }
}
