/** Terms II and III and promises 6 to 12: who owes, on the day itself and on the days beside it. */
final class OweEdges {
    private static final String LAND = "place a;place b;place c;place d;place e;goods w;goods v;bridge x by a to b long 2;"
        + "bridge y by b to c long 1;man m of a since 5;";
    private static final String CART = ";cart k of m with w own loads 4 from a to b day 30";
    private static final String OLDER = "older own alike copies";
    private static final String LATER = "later own alike copies";

    private OweEdges() {
    }

    static void all() {
        spans();
        inForce();
        lost();
        everyLaw();
        renewalDays();
        severalRenewals();
        howRenewed();
        renewedByLater();
        since();
        fewestAs();
        dayByAs();
        whoWins();
        goodsAndUse();
        namedLaws();
        leastGrantWins();
        owed();
        judged();
        choices();
        extremes();
        chained();
        ringed();
    }

    private static TollBars bars(String lines, String words) {
        return Check.sound(LAND + lines + ";law l " + words + CART);
    }

    private static void owes(String lines, String words, int day, int want) {
        TollBars x = bars(lines, words);
        Check.due("owes on " + day + " by " + words + " of " + lines, x.owes(0, 0, day, 0), want);
        Check.due("trouble()", x.trouble(), 0);
    }

    private static void spans() {
        Sentence.term(2, "A GRANT's DAY: that told; of a span the first, but where DAYS are gone through");
        owes("take t at x on w coin 3 day 10 to 20", OLDER, 9, 0);
        owes("take t at x on w coin 3 day 10 to 20", OLDER, 10, 12);
        owes("take t at x on w coin 3 day 10 to 20;free f for a on w own day 10", OLDER, 30, 0);
        owes("take t at x on w coin 3 day 10 to 20;free f for a on w own day 11", OLDER, 30, 12);
        owes("take t at x on w coin 3 day 10;free f for a on w own day 10 to 20", OLDER, 30, 0);
        owes("take t at x on w coin 3 day 10;free f for a on w own day 9 to 20", LATER, 30, 12);
        owes("take t at x on w coin 3 day 10;free f for b on w own day 9;as s for a like b day 10 to 20", OLDER, 30, 0);
    }

    private static void inForce() {
        Sentence.term(2, "It is IN FORCE on a day if its DAY isn't behind it");
        TollBars x = bars("take t at x on w coin 3 day 0;take u at x on w coin 3 day 999;free f for b on w own day 11;"
            + "as s for a like b day 12 to 20", OLDER);
        Sentence.promise(10, "Whether a GRANT is IN FORCE: 1, 0.");
        Check.due("t of day 0 on 0", x.force(0, 0, 0), 1);
        Check.due("t of day 0 on 999", x.force(0, 999, 0), 1);
        Check.due("u of day 999 on 998", x.force(1, 998, 0), 0);
        Check.due("u of day 999 on 999", x.force(1, 999, 0), 1);
        Check.due("f of day 11 on 10", x.force(6, 10, 0), 0);
        Check.due("f of day 11 on 11", x.force(6, 11, 0), 1);
        Check.due("f of day 11 on 12", x.force(6, 12, 0), 1);
        Check.due("s of day 12 on 11", x.force(12, 11, 0), 0);
        Check.due("s of day 12 on 12", x.force(12, 12, 0), 1);
    }

    private static void lost() {
        Sentence.term(2, "and it isn't lost, or is copied and the LAW is one of copies");
        String papers = "older own alike papers";
        String[] lines = {"", ";lost t", ";lost t copied"};
        int[][] want = {{1, 1}, {0, 0}, {1, 0}};
        for (int i = 0; i < lines.length; i++) {
            TollBars x = Check.sound(LAND + "take t at x on w coin 3 day 10" + lines[i] + ";law l " + OLDER + ";law n " + papers
                + CART);
            Check.due("copies" + lines[i], x.force(0, 10, 0), want[i][0]);
            Check.due("papers" + lines[i], x.force(0, 10, 1), want[i][1]);
            Check.due("ahead of its day" + lines[i], x.force(0, 9, 0), 0);
            Check.due("owes by copies" + lines[i], x.owes(0, 0, 10, 0), 12 * want[i][0]);
            Check.due("owes by papers" + lines[i], x.owes(0, 0, 10, 1), 12 * want[i][1]);
        }
    }

    /** What a law's other words are is nothing to its copies. */
    private static void everyLaw() {
        Sentence.term(1, "law NAME WHO FROM WHAT PROOF (older, or later; own, or given; named, or alike; copies, or papers)");
        for (int i = 0; i < 16; i++) {
            String words = (i & 1) == 0 ? "older" : "later";
            words += (i & 2) == 0 ? " own" : " given";
            words += (i & 4) == 0 ? " named" : " alike";
            words += (i & 8) == 0 ? " copies" : " papers";
            TollBars x = bars("take t at x on w coin 3 day 10;lost t copied;take u at x on w coin 1 day 10;free f for b on w own "
                + "day 9;as s for a like b day 11;lost s", words);
            Check.due("a copied one by " + words, x.force(0, 10, 0), (i & 8) == 0 ? 1 : 0);
            Check.due("one that isn't lost by " + words, x.force(1, 10, 0), 1);
            Check.due("one that is lost by " + words, x.force(12, 30, 0), 0);
            Check.due("find t and s", x.find(0) && x.find(12), true);
            // f of 9 by an as of 11: by given its own day counts, by own that of the as.
            boolean wins = (i & 1) == ((i & 2) == 0 ? 1 : 0);
            Check.due("owes by " + words, x.owes(0, 0, 30, 0), wins ? 0 : 16);
        }
    }

    private static void renewalDays() {
        Sentence.term(2, "A RENEWAL counts on a day if its own isn't behind it");
        String take = "take t at x on w coin 5 day 0;";
        owes(take + "renew t less day 20", OLDER, 19, 20);
        owes(take + "renew t less day 20", OLDER, 20, 8);
        owes(take + "renew t less day 20", OLDER, 21, 8);
        owes(take + "renew t less day 0", OLDER, 0, 8);
        owes(take + "renew t less day 999", OLDER, 998, 20);
        owes(take + "renew t less day 999", OLDER, 999, 8);
        owes("take t at x on w coin 5 day 30;renew t less day 20", OLDER, 30, 8);
    }

    private static void severalRenewals() {
        Sentence.term(2, "of several of one GRANT the latest day's, of like days the latest LINE's");
        String take = "take t at x on w coin 5 day 0;take u at x on w coin 9 day 0;lost u;";
        owes(take + "renew t less day 20;renew t same day 21", OLDER, 30, 20);
        owes(take + "renew t less day 20;renew t same day 21", OLDER, 20, 8);
        owes(take + "renew t same day 21;renew t less day 20", OLDER, 30, 20);
        owes(take + "renew t same day 20;renew t less day 20", OLDER, 30, 8);
        owes(take + "renew t less day 20;renew t same day 20", OLDER, 30, 20);
        owes(take + "renew t less day 0;renew t same day 0", OLDER, 0, 20);
        owes(take + "renew t less day 20;renew t same day 20;renew t more day 20;renew t less day 20", OLDER, 30, 8);
        // One of another grant, and one that doesn't count yet, are nothing to it.
        owes(take + "renew t less day 20;renew u same day 25", OLDER, 30, 8);
        owes(take + "renew t less day 20;renew t same day 31", OLDER, 30, 8);
        // Only the latest counts: halves aren't halved again, and more is forgotten.
        owes(take + "renew t less day 20;renew t less day 21", OLDER, 30, 8);
        owes("take t at x on v coin 5 day 0;renew t more day 20;renew t same day 21", OLDER, 30, 0);
    }

    private static void howRenewed() {
        Sentence.term(2, "a take's coin is half (downwards)");
        int[] coins = {1, 2, 3, 98, 99};
        int[] halves = {0, 1, 1, 49, 49};
        for (int i = 0; i < coins.length; i++) {
            owes("take t at x on w coin " + coins[i] + " day 0;renew t less day 9", OLDER, 9, 4 * halves[i]);
            owes("take t at x on w coin " + coins[i] + " day 0;renew t same day 9", OLDER, 9, 4 * coins[i]);
            owes("take t at x on w coin " + coins[i] + " day 0;renew t more day 9", OLDER, 9, 4 * coins[i]);
            owes("take t at x on v coin " + coins[i] + " day 0;renew t more day 9", OLDER, 9, 4 * coins[i]);
        }
        Sentence.term(2, "same: neither");
        owes("take t at x on w coin 3 day 10;free f for a on w own day 3;renew f same day 9", OLDER, 30, 0);
        owes("take t at x on v coin 3 day 10;renew t same day 10", OLDER, 30, 0);
        Sentence.term(2, "more: a take is on all, a free on all and both");
        String take = "take t at x on w coin 3 day 10;";
        owes(take + "free f for a on v trade day 3;renew f more day 9", OLDER, 30, 0);
        owes(take + "free f for a on v trade day 3;renew f same day 9", OLDER, 30, 12);
        owes(take + "free f for a on v both day 3;renew f same day 9", OLDER, 30, 12);
        Sentence.term(2, "a free is own alone");
        owes(take + "free f for a on w trade day 3;renew f less day 9", OLDER, 30, 0);
        owes(take + "free f for a on v both day 3;renew f less day 9", OLDER, 30, 12);
        TollBars x = Check.sound(LAND + take + "free f for a on w both day 3;renew f less day 9;law l " + OLDER
            + ";cart k of m with w trade loads 4 from a to b day 30");
        Check.due("for trade it isn't free any longer", x.owes(0, 0, 30, 0), 12);
        Check.due("cart for trade, free of both", x.owes(0, 0, 8, 0), 0);
        Sentence.promise(27, "5 coin, or USE (0 own, 1 trade, 2 both; of an as 0)");
        Check.due("grant() tells the use that was told", x.grant(6, 5), 2);
    }

    private static void renewedByLater() {
        Sentence.term(2, "If the LAW is later, the GRANT's DAY is the RENEWAL's then (also for being IN FORCE: no)");
        String take = "take t at x on w coin 3 day 10;";
        TollBars x = bars(take + "renew t same day 5", LATER);
        Check.due("in force on 9", x.force(0, 9, 0), 0);
        Check.due("in force on 10", x.force(0, 10, 0), 1);
        TollBars y = bars(take + "renew t same day 20", LATER);
        Check.due("in force on 19", y.force(0, 19, 0), 1);
        Check.due("in force on 20", y.force(0, 20, 0), 1);
        owes(take + "free f for a on w own day 15;renew t same day 16", LATER, 15, 0);
        owes(take + "free f for a on w own day 15;renew t same day 16", LATER, 16, 12);
        owes(take + "free f for a on w own day 15;renew t same day 15", LATER, 30, 0);
        owes(take + "free f for a on w own day 9;renew f same day 10", LATER, 30, 0);
        owes(take + "free f for a on w own day 9;renew f same day 11", LATER, 10, 12);
        // A renewal of an earlier day than the grant's makes it earlier.
        owes(take + "free f for a on w own day 10;renew f same day 9", LATER, 30, 12);
        owes(take + "free f for a on w own day 9;renew t same day 9", LATER, 30, 0);
        // By older the day is the one told.
        owes(take + "free f for a on w own day 11;renew t same day 11", OLDER, 30, 12);
        owes(take + "free f for a on w own day 10;renew f same day 11", OLDER, 30, 0);
    }

    private static void since() {
        Sentence.term(2, "FREEDOMS of a man on a day (none if since is behind it)");
        String lines = "take t at x on w coin 3 day 0;free f for a on w own day 0;free h for b on w own day 0;"
            + "as s for a like b day 0";
        owes(lines, OLDER, 4, 12);
        owes(lines, OLDER, 5, 0);
        owes(lines, OLDER, 6, 0);
        TollBars x = bars(lines, OLDER);
        Check.due("wins ahead of since", x.wins(0, 0, 4, 0), -2);
        Check.due("wins on since", x.wins(0, 0, 5, 0), 6);
    }

    private static void fewestAs() {
        Sentence.term(2, "frees IN FORCE of his PLACE; and of each PLACE that is reached from it by as IN FORCE, each from the PLACE it "
            + "is for to the one it is like");
        String one = "take t at x on w coin 3 day 10;free f for b on w own day 1;as s for a like b day 9";
        owes(one, OLDER, 30, 0);
        owes(one.replace("a like b", "b like a"), OLDER, 30, 12);
        owes(one + ";lost s", OLDER, 30, 12);
        owes(one + ";lost f", OLDER, 30, 12);
        owes(one.replace("day 9", "day 31"), "older given alike copies", 30, 12);
        owes(one.replace("day 9", "day 31"), "older given alike copies", 31, 0);
        owes(one.replace("own day 1;", "own day 10 to 12;"), OLDER, 30, 0);
        Sentence.term(2, "each PLACE reached once: of fewest as; of like ones by the as of least numbers, from his own PLACE on");
        String lines = "take t at x on w coin 3 day 10;free f for d on w own day 1;";
        // Two as of days that don't lose against one that does: one is fewest.
        owes(lines + "as p for a like b day 1;as q for b like d day 1;as r for a like d day 11", OLDER, 30, 12);
        owes(lines + "as p for a like b day 11;as q for b like d day 11;as r for a like d day 1", OLDER, 30, 0);
        // Of two that lead straight there the one of the least number.
        owes(lines + "as p for a like d day 11;as q for a like d day 1", OLDER, 30, 12);
        owes(lines + "as p for a like d day 1;as q for a like d day 11", OLDER, 30, 0);
        // One that isn't in force, or is lost, is none.
        owes(lines + "as p for a like d day 11;as q for a like d day 1", OLDER, 10, 0);
        owes(lines + "as p for a like d day 11;as q for a like d day 1;lost p", OLDER, 30, 0);
        // Two by two: the first as decides, whatever the second's number is.
        owes(lines + "as p for b like d day 1;as q for a like c day 11;as r for a like b day 1;as s for c like d day 1", OLDER,
            30, 12);
        owes(lines + "as p for c like d day 1;as q for a like b day 1;as r for a like c day 11;as s for b like d day 1", OLDER,
            30, 0);
        // Four as in a row reach as far as they lead.
        owes("take t at x on w coin 3 day 10;free f for e on w own day 1;as p for d like e day 3;as q for c like d day 3;"
            + "as r for b like c day 3;as s for a like b day 3", OLDER, 30, 0);
        owes("take t at x on w coin 3 day 10;free f for e on w own day 1;as p for d like e day 3;as q for c like d day 3;"
            + "as r for b like c day 3;as s for a like b day 3;lost r", OLDER, 30, 12);
        // An as leads from the place it is for to the one it is like, not back.
        owes(lines + "as p for d like a day 1", OLDER, 30, 12);
        // His own place is reached by none, though as lead back to it.
        owes("take t at x on w coin 3 day 10;free f for a on w own day 1;as p for a like b day 11;as q for b like a day 11",
            OLDER, 30, 0);
    }

    private static void dayByAs() {
        Sentence.term(2, "if the LAW is given that of the free, if own that of the first as on the way, or of the free, if that "
            + "is later");
        String[] laws = {"older given alike copies", "older own alike copies", "later given alike copies",
            "later own alike copies"};
        // The days of the free, of the first as, of the second; what is owed by each law against a take of day 10.
        int[][] cases = {
            {10, 10, 10, 0, 0, 0, 0}, {10, 11, 10, 0, 12, 0, 0}, {9, 10, 30, 0, 0, 12, 0}, {9, 9, 30, 0, 0, 12, 12},
            {11, 10, 10, 12, 12, 0, 0}, {11, 9, 9, 12, 12, 0, 0}, {9, 11, 9, 0, 12, 12, 0}, {10, 9, 11, 0, 0, 0, 0}};
        for (int[] c : cases) {
            for (int law = 0; law < 4; law++) {
                owes("take t at x on w coin 3 day 10;free f for c on w own day " + c[0] + ";as p for a like b day " + c[1]
                    + ";as q for b like c day " + c[2], laws[law], 30, c[3 + law]);
            }
        }
        // The free's day by a later law is its renewal's.
        owes("take t at x on w coin 3 day 10;free f for b on w own day 1;as p for a like b day 2;renew f same day 10",
            "later given alike copies", 30, 0);
        owes("take t at x on w coin 3 day 10;free f for b on w own day 1;as p for a like b day 2;renew f same day 10", LATER,
            9, 0);
        owes("take t at x on w coin 3 day 10;free f for b on w own day 1;as p for a like b day 2;renew f same day 9", LATER,
            30, 12);
    }

    private static void whoWins() {
        Sentence.term(2, "else by older if its DAY isn't behind the take's, by later if it isn't ahead of it");
        String take = "take t at x on w coin 3 day 10;free f for a on w own day ";
        owes(take + "9", OLDER, 30, 0);
        owes(take + "10", OLDER, 30, 0);
        owes(take + "11", OLDER, 30, 12);
        owes(take + "9", LATER, 30, 12);
        owes(take + "10", LATER, 30, 0);
        owes(take + "11", LATER, 30, 0);
        // On a day ahead of its own a free is none.
        owes(take + "11", LATER, 10, 12);
    }

    private static void goodsAndUse() {
        Sentence.term(2, "One WINS against a take, if it is on the cart's goods (or all) and for its use (or both)");
        String[] goods = {"w", "v", "all"};
        String[] uses = {"own", "trade", "both"};
        for (int g = 0; g < 3; g++) {
            for (int u = 0; u < 3; u++) {
                owes("take t at x on w coin 3 day 10;free f for a on " + goods[g] + " " + uses[u] + " day 1", OLDER, 30,
                    g != 1 && u != 1 ? 0 : 12);
            }
            owes("take t at x on " + goods[g] + " coin 3 day 10", OLDER, 30, g == 1 ? 0 : 12);
        }
        for (int g = 0; g < 3; g++) {
            for (int u = 0; u < 3; u++) {
                TollBars x = Check.sound(LAND + "take t at x on v coin 3 day 10;take u at x on w coin 1 day 10;free f for a on "
                    + goods[g] + " " + uses[u] + " day 1;law l older own alike copies;"
                    + "cart k of m with v trade loads 4 from a to b day 30");
                Check.due("other goods, for trade, free on " + goods[g] + " " + uses[u], x.owes(0, 0, 30, 0),
                    g != 0 && u != 0 ? 0 : 12);
            }
        }
    }

    private static void namedLaws() {
        Sentence.term(2, "if the LAW is named and just one of both names goods (isn't on all): that one wins");
        String[] goods = {"w", "all"};
        String[] named = {"older own named copies", "later own named copies"};
        for (int t = 0; t < 2; t++) {
            for (int f = 0; f < 2; f++) {
                for (int law = 0; law < 2; law++) {
                    // Day 1 wins by older, day 20 by later, unless names decide.
                    int byOlder = t == f ? law == 0 ? 0 : 12 : f == 0 ? 0 : 12;
                    int byLater = t == f ? law == 0 ? 12 : 0 : f == 0 ? 0 : 12;
                    String lines = "take t at x on " + goods[t] + " coin 3 day 10;free f for a on " + goods[f] + " own day ";
                    owes(lines + 1, named[law], 30, byOlder);
                    owes(lines + 20, named[law], 30, byLater);
                }
            }
        }
        // Renewed to more, it isn't one that names goods any longer.
        owes("take t at x on w coin 3 day 10;free f for a on all own day 1;renew t more day 30", named[0], 29, 12);
        owes("take t at x on w coin 3 day 10;free f for a on all own day 1;renew t more day 30", named[0], 30, 0);
        owes("take t at x on all coin 3 day 10;free f for a on w own day 20;renew f more day 30", named[0], 29, 0);
        owes("take t at x on all coin 3 day 10;free f for a on w own day 20;renew f more day 30", named[0], 30, 12);
    }

    private static void leastGrantWins() {
        Sentence.promise(7, "(of several the least number); -2 if none does");
        TollBars x = bars("take t at x on w coin 3 day 10;take u at y on v coin 2 day 40;free j for c on w own day 1;"
            + "free f for a on w own day 12;free h for a on all both day 9;free i for b on w own day 3;as s for a like b day 8",
            OLDER);
        Check.due("h and i win, f of 12 doesn't", x.wins(0, 0, 30, 0), 8);
        Check.due("i by as", x.lose(8, false), true);
        Check.due("i wins", x.wins(0, 0, 30, 0), 9);
        Check.due("lose i", x.lose(9, false), true);
        Check.due("none", x.wins(0, 0, 30, 0), -2);
        Check.due("trouble()", x.trouble(), 0);
        Check.due("date f", x.date(7, 10), true);
        Check.due("f of 10", x.wins(0, 0, 30, 0), 7);
        Check.due("on day 0 none is in force", x.wins(0, 0, 0, 0), -2);
        Check.due("on day 999", x.wins(0, 0, 999, 0), 7);
        // WINS doesn't ask whether the take is in force, or on the cart's goods.
        Check.due("against a take of day 40 on 39", x.wins(0, 1, 39, 0), 7);
    }

    private static void owed() {
        Sentence.promise(6, "OWES.");
        StringBuilder takes = new StringBuilder("place a;place b;goods g;man m of a since 0;bridge x by a to b long 1;"
            + "bridge y by a to b long 1;");
        for (int i = 0; i < 6; i++) {
            takes.append("take t" + (char) ('a' + i) + " at x on all coin 99 day " + (i == 0 ? 0 : 999) + ";");
        }
        TollBars x = Check.sound(takes + "law l older own alike copies;cart k of m with g own loads 99 from a to b day 0;"
            + "cart n of m with g own loads 1 from a to b day 999");
        Check.due("on day 0", x.owes(0, 0, 0, 0), 9801);
        Check.due("on day 998", x.owes(0, 0, 998, 0), 9801);
        Check.due("on day 999, six of 99 coin for 99 loads", x.owes(0, 0, 999, 0), 58806);
        Check.due("one load", x.owes(1, 0, 999, 0), 594);
        Check.due("at a bridge without a take", x.owes(0, 1, 999, 0), 0);
        Check.due("judge", x.judge(0, 0, 999, 0, 58806), 1);
        Check.due("most", x.sure(0, 0, 999, 0, true), 58806);
        Check.due("least", x.sure(0, 0, 999, 0, false), 58806);
        Sentence.term(2, "OWES of a cart at a bridge on a day");
        // A free of the bridge's number stands next behind six takes and is none.
        TollBars full = Check.sound(takes + "free f for a on all both day 0;free h for b on all both day 0;man n of b since 999;"
            + "law l older own alike copies;cart k of n with g own loads 99 from a to b day 0");
        Check.due("six takes and frees behind them", full.owes(0, 0, 998, 0), 9801);
        Check.due("at the other bridge", full.owes(0, 1, 998, 0), 0);
        Sentence.term(2, "coin times loads of each take IN FORCE there, on its goods or all, against which none of the man's "
            + "FREEDOMS WINS");
        owes("take t at x on w coin 1 day 10;take u at x on all coin 10 day 12;take z at x on v coin 20 day 1;"
            + "free f for a on w own day 11", OLDER, 30, 4);
    }

    private static void judged() {
        Sentence.promise(8, "Whether told OWES are right: 1, 0.");
        TollBars x = bars("take t at x on w coin 3 day 10", OLDER);
        int[] wrong = {11, 13, 0, -12, -1, Integer.MIN_VALUE, Integer.MAX_VALUE};
        for (int told : wrong) {
            Check.due("judge " + told, x.judge(0, 0, 10, 0, told), 0);
            Check.due("trouble()", x.trouble(), 0);
        }
        Check.due("judge 12", x.judge(0, 0, 10, 0, 12), 1);
        Check.due("judge 0 where nothing is owed", x.judge(0, 0, 9, 0, 0), 1);
        Check.due("judge -1 where nothing is owed", x.judge(0, 0, 9, 0, -1), 0);
    }

    private static void choices() {
        Sentence.term(3, "OWES over all DAYS of spans of all takes, frees and as (if there are no more than 2,000 choices)");
        int[][] spans = {{20, 20, 5, 1}, {5, 20, 20, 1}, {2, 10, 10, 10}, {2, 7, 11, 13}, {1, 1, 1, 1}, {21, 19, 5, 1},
            {20, 20, 1, 6}, {21, 12, 8, 1}, {21, 21, 21, 21}, {5, 20, 20, 2}};
        boolean[] allowed = {true, true, true, false, true, true, false, false, false, false};
        for (int i = 0; i < spans.length; i++) {
            int[] s = spans[i];
            TollBars x = bars("take t at x on w coin 3 day 10 to " + (9 + s[0]) + ";free f for a on v own day 10 to "
                + (9 + s[1]) + ";as p for c like d day 10 to " + (9 + s[2]) + ";as q for d like c day 10 to " + (9 + s[3])
                + ";lost q;lost f", OLDER);
            String of = s[0] + " " + s[1] + " " + s[2] + " " + s[3];
            Check.due("most of " + of, x.sure(0, 0, 30, 0, true), allowed[i] ? 12 : -1);
            Check.due("trouble() of " + of, x.trouble(), allowed[i] ? 0 : 3);
            // Ahead of the take's last day it isn't in force by that choice.
            Check.due("least of " + of, x.sure(0, 0, 8 + s[0], 0, false), !allowed[i] ? -1 : 0);
        }
        // 20 times 20 times 5: only by the very last choice is no take in force on day 18.
        TollBars last = bars("take t at x on w coin 1 day 0 to 19;take u at x on w coin 1 day 0 to 19;"
            + "take z at x on w coin 1 day 15 to 19", OLDER);
        Check.due("least by the last of 2,000 choices", last.sure(0, 0, 18, 0, false), 0);
        Check.due("most by the first of them", last.sure(0, 0, 15, 0, true), 12);
        Check.due("least on 19", last.sure(0, 0, 19, 0, false), 12);
        // Sixteen spans of 21 days: far more than an int can count.
        StringBuilder text = new StringBuilder(LAND);
        for (char c = 'a'; c < 'g'; c++) {
            text.append("take t" + c + " at x on w coin 1 day 0 to 20;free f" + c + " for b on w own day 0 to 20;");
        }
        text.append("as sa for c like d day 0 to 20;as sb for c like d day 0 to 20;as sc for c like d day 0 to 20;"
            + "as sd for c like d day 0 to 20;law l older own alike copies");
        TollBars x = Check.sound(text + CART);
        Check.due("sixteen spans", x.sure(0, 0, 30, 0, true), -1);
        Check.due("trouble()", x.trouble(), 3);
        for (int g = 0; g < 16; g++) {
            Check.due("date " + g, x.date(g, 20), true);
            Check.due("sure with " + (15 - g) + " spans", x.sure(0, 0, 30, 0, true), g < 13 ? -1 : 24);
        }
        Check.due("owes by the days that are known", x.owes(0, 0, 19, 0), 0);
    }

    private static void extremes() {
        Sentence.promise(9, "LEAST (or MOST).");
        // t wins or loses against f by the day of t, and is in force on some days alone.
        TollBars x = bars("take t at x on w coin 3 day 10 to 12;free f for a on w own day 11", OLDER);
        Check.due("least on 9", x.sure(0, 0, 9, 0, false), 0);
        Check.due("most on 9", x.sure(0, 0, 9, 0, true), 0);
        Check.due("least on 10: t of 11", x.sure(0, 0, 10, 0, false), 0);
        Check.due("most on 10: t of 10", x.sure(0, 0, 10, 0, true), 12);
        Check.due("least on 11", x.sure(0, 0, 11, 0, false), 0);
        Check.due("most on 11", x.sure(0, 0, 11, 0, true), 12);
        TollBars first = bars("take t at x on w coin 3 day 10 to 11;free f for a on w own day 5 to 10", OLDER);
        Check.due("a free that isn't behind", first.sure(0, 0, 30, 0, true), 0);
        TollBars last = bars("take t at x on w coin 3 day 10 to 11;free f for a on w own day 5 to 11", OLDER);
        Check.due("the last free with the first take alone", last.sure(0, 0, 30, 0, true), 12);
        Check.due("least", last.sure(0, 0, 30, 0, false), 0);
        // An as of a span: in force on its first day alone, and by own its day counts.
        TollBars as = bars("take t at x on w coin 3 day 10;free f for b on w own day 1;as s for a like b day 10 to 11", OLDER);
        Check.due("least by as", as.sure(0, 0, 10, 0, false), 0);
        Check.due("most by as", as.sure(0, 0, 10, 0, true), 12);
        Check.due("owes by the first day", as.owes(0, 0, 30, 0), 0);
        // A span of a lost take brings nothing.
        TollBars lost = bars("take t at x on w coin 3 day 10 to 12;lost t", OLDER);
        Check.due("lost, most", lost.sure(0, 0, 30, 0, true), 0);
        // By later a renewal's day is the grant's, whatever the choice is; in force it is by the choice.
        TollBars renewed = bars("take t at x on w coin 3 day 10 to 14;free f for a on w own day 12;renew t same day 13", LATER);
        Check.due("most on 12: t of 10, its renewal behind", renewed.sure(0, 0, 12, 0, true), 0);
        Check.due("least on 13: t of 14", renewed.sure(0, 0, 13, 0, false), 0);
        Check.due("most on 13: t renewed", renewed.sure(0, 0, 13, 0, true), 12);
        Check.due("least on 14", renewed.sure(0, 0, 14, 0, false), 12);
        Check.due("trouble()", renewed.trouble(), 0);
    }

    private static void chained() {
        Sentence.promise(11, "The i-th PLACE reached by as from one on a day, by how many as, then by their way (itself is none).");
        TollBars x = bars("as p for b like d day 3;as q for a like e day 3;as r for a like b day 4;as s for e like c day 3",
            OLDER);
        int[] want = {4, 1, 2, 3};
        for (int i = 0; i < 4; i++) {
            Check.due("chain " + i, x.chain(0, 4, 0, i), want[i]);
            Check.due("trouble()", x.trouble(), 0);
        }
        int[] none = {4, -1, 7, 8, Integer.MIN_VALUE, Integer.MAX_VALUE};
        for (int i : none) {
            Check.due("chain " + i, x.chain(0, 4, 0, i), -1);
            Check.due("trouble() of no such i", x.trouble(), 1);
        }
        Check.due("on 3 one as isn't in force", x.chain(0, 3, 0, 1), 2);
        Check.due("and there is no third", x.chain(0, 3, 0, 2), -1);
        Check.due("on 2 none is", x.chain(0, 2, 0, 0), -1);
        Check.due("from the end none leads on", x.chain(3, 999, 0, 0), -1);
        TollBars ring = bars("as p for a like b day 3;as q for b like a day 3", OLDER);
        Check.due("back to itself is none", ring.chain(0, 3, 0, 0), 1);
        Check.due("no second", ring.chain(0, 3, 0, 1), -1);
        Check.due("from b", ring.chain(1, 3, 0, 0), 0);
        TollBars row = bars("as p for d like e day 3;as q for c like d day 3;as r for b like c day 3;as s for a like b day 0",
            OLDER);
        for (int i = 0; i < 4; i++) {
            Check.due("four in a row: " + i, row.chain(0, 3, 0, i), i + 1);
        }
        Check.due("on day 0", row.chain(0, 0, 0, 0), 1);
        Check.due("on day 0 no further", row.chain(0, 0, 0, 1), -1);
        TollBars twice = bars("as p for a like c day 3;as q for a like b day 3;as r for b like c day 3;as s for c like d day 3",
            OLDER);
        Check.due("each place once: c", twice.chain(0, 3, 0, 0), 2);
        Check.due("each place once: b", twice.chain(0, 3, 0, 1), 1);
        Check.due("each place once: d", twice.chain(0, 3, 0, 2), 3);
        Check.due("each place once", twice.chain(0, 3, 0, 3), -1);
    }

    private static void ringed() {
        Sentence.promise(12, "Whether as IN FORCE on a day lead from a PLACE back to itself: 1, 0.");
        TollBars x = bars("as p for a like b day 3;as q for b like a day 4;as r for c like a day 1;as s for b like d day 1", OLDER);
        int[] want = {1, 1, 0, 0, 0};
        for (int place = 0; place < 5; place++) {
            Check.due("ring of " + place + " on 3", x.ring(place, 3, 0), 0);
            Check.due("ring of " + place + " on 4", x.ring(place, 4, 0), want[place]);
            Check.due("ring of " + place + " on 999", x.ring(place, 999, 0), want[place]);
            Check.due("ring of " + place + " on 0", x.ring(place, 0, 0), 0);
            Check.due("trouble()", x.trouble(), 0);
        }
        Check.due("lose q", x.lose(13, false), true);
        Check.due("no ring without q", x.ring(0, 4, 0), 0);
        TollBars four = bars("as p for d like a day 0;as q for c like d day 0;as r for b like c day 0;as s for a like b day 0",
            OLDER);
        for (int place = 0; place < 4; place++) {
            Check.due("ring of four: " + place, four.ring(place, 0, 0), 1);
        }
        Check.due("not on it", four.ring(4, 0, 0), 0);
        Check.due("lose r, copied", four.lose(14, true), true);
        Check.due("a copy leads on", four.ring(0, 0, 0), 1);
        TollBars bare = bars("take t at x on w coin 3 day 10", OLDER);
        Check.due("without an as", bare.ring(0, 999, 0), 0);
    }
}
