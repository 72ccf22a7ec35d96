/** Promises 6 to 12: owes, wins, judge, sure, force, chain, ring. */
public final class OwesTest {
    private static final String LAND = "place a;place b;place c;place d;goods w;goods v;bridge x by a to b long 2;"
        + "bridge y by b to c long 1;man m of a since 5;";
    private static final String CART = ";cart k of m with w own loads 4 from a to b day 30";
    private static final String LAWS = "law l older own alike copies;law n later own alike papers";

    /** What the first cart owes at the first bridge by a law of these words, with these lines in the realm. */
    private static void owed(String lines, String words, int day, int want) {
        TollBars x = Check.sound(LAND + lines + ";law l " + words + CART);
        Check.due("owes by " + words + " with " + lines + " on " + day, x.owes(0, 0, day, 0), want);
        Check.due("trouble", x.trouble(), 0);
    }

    private static void takes() {
        owed("take t at x on w coin 3 day 10", "older own alike copies", 30, 12);
        owed("take t at x on w coin 3 day 10", "older own alike copies", 10, 12);
        owed("take t at x on w coin 3 day 10", "older own alike copies", 9, 0);
        owed("take t at x on v coin 3 day 10", "older own alike copies", 30, 0);
        owed("take t at x on all coin 3 day 10", "older own alike copies", 30, 12);
        owed("take t at y on all coin 3 day 10", "older own alike copies", 30, 0);
        owed("take t at x on all coin 3 day 10;take u at x on w coin 2 day 0", "older own alike copies", 30, 20);
        owed("take t at x on all coin 3 day 10 to 20", "older own alike copies", 10, 12);
        owed("take t at x on all coin 3 day 10;lost t", "older own alike copies", 30, 0);
        owed("take t at x on all coin 3 day 10;lost t copied", "older own alike copies", 30, 12);
        owed("take t at x on all coin 3 day 10;lost t copied", "older own alike papers", 30, 0);
    }

    private static void freedoms() {
        String take = "take t at x on w coin 3 day 10;";
        String older = "older own alike copies";
        String later = "later own alike copies";
        owed(take + "free f for a on w own day 10", older, 30, 0);
        owed(take + "free f for a on w own day 11", older, 30, 12);
        owed(take + "free f for a on w own day 10", later, 30, 0);
        owed(take + "free f for a on w own day 9", later, 30, 12);
        owed(take + "free f for a on w own day 20", later, 19, 12);
        owed(take + "free f for b on w own day 9", older, 30, 12);
        owed(take + "free f for a on v own day 9", older, 30, 12);
        owed(take + "free f for a on all own day 9", older, 30, 0);
        owed(take + "free f for a on w trade day 9", older, 30, 12);
        owed(take + "free f for a on w both day 9", older, 30, 0);
        owed(take + "free f for a on w own day 9;lost f", older, 30, 12);
        owed(take + "free f for a on w own day 9;lost f copied", older, 30, 0);
        owed(take + "free f for a on w own day 9;lost f copied", "older own alike papers", 30, 12);
        // The man is of a place since day 5.
        String early = "take t at x on w coin 3 day 3;free f for a on w own day 2";
        owed(early, older, 4, 12);
        owed(early, older, 5, 0);
    }

    private static void namedGoods() {
        String named = "older own named copies";
        String all = "take t at x on all coin 3 day 10;";
        String one = "take t at x on w coin 3 day 10;";
        owed(all + "free f for a on w own day 20", named, 30, 0);
        owed(one + "free f for a on all own day 5", named, 30, 12);
        owed(one + "free f for a on w own day 5", named, 30, 0);
        owed(one + "free f for a on w own day 15", named, 30, 12);
        owed(all + "free f for a on all own day 5", named, 30, 0);
        owed(all + "free f for a on all own day 15", named, 30, 12);
        // Renewed to more, neither names goods any longer, or the other one does.
        owed(one + "free f for a on all own day 5;renew t more day 20", named, 30, 0);
        owed(one + "free f for a on all own day 5;renew t more day 20", named, 19, 12);
        owed(one + "free f for a on w own day 5;renew f more day 20", named, 30, 12);
        owed(all + "free f for a on w own day 20;renew f more day 25", named, 30, 12);
    }

    private static void renewals() {
        String take = "take t at x on w coin 5 day 10;";
        String older = "older own alike copies";
        String later = "later own alike copies";
        owed(take + "renew t less day 20", older, 20, 8);
        owed(take + "renew t less day 20", older, 19, 20);
        owed("take t at x on w coin 1 day 10;renew t less day 20", older, 20, 0);
        owed(take + "renew t same day 20", older, 20, 20);
        owed("take t at x on v coin 5 day 10;renew t more day 20", older, 20, 20);
        owed("take t at x on v coin 5 day 10;renew t more day 20", older, 19, 0);
        owed("take t at x on v coin 5 day 0;renew t more day 0", older, 0, 20);
        // The latest day's counts alone, of like days the latest line's.
        owed("take t at x on v coin 5 day 10;renew t more day 25;renew t less day 20", older, 30, 20);
        owed("take t at x on v coin 5 day 10;renew t more day 25;renew t less day 20", older, 24, 0);
        owed(take + "renew t less day 20;renew t same day 20", older, 30, 20);
        owed(take + "renew t same day 20;renew t less day 20", older, 30, 8);
        // A renewal ahead of the grant's day doesn't put it in force.
        owed(take + "renew t same day 5", older, 9, 0);
        owed(take + "renew t same day 5", later, 9, 0);
        owed(take + "renew t less day 5", later, 10, 8);
        // By a later law the day is the renewal's, by an older one not.
        owed(take + "free f for a on w own day 12;renew t same day 20", later, 30, 20);
        owed(take + "free f for a on w own day 12;renew t same day 20", later, 19, 0);
        owed(take + "free f for a on w own day 12;renew t same day 20", older, 30, 20);
        owed(take + "free f for a on w own day 8;renew f same day 20", later, 30, 0);
        owed(take + "free f for a on w own day 8;renew f same day 20", older, 30, 0);
        // Yet it stays in force by its own day: renewed on 20, it is there on 30 as on 12.
        owed(take + "renew t same day 20", later, 12, 20);
        owed(take + "free f for a on v trade day 8;renew f more day 20", older, 30, 0);
        owed(take + "free f for a on w both day 8;renew f less day 20", older, 30, 0);
        owed(take + "free f for a on w trade day 8;renew f less day 20", older, 30, 0);
        owed(take + "free f for a on w trade day 8;renew f same day 20", older, 30, 20);
    }

    private static void asOthersHave() {
        String take = "take t at x on w coin 3 day 10;";
        String free = "free f for c on w own day 8;";
        String way = "as s for a like b day 12;as u for b like c day 4";
        owed(take + free + way, "older given alike copies", 30, 0);
        owed(take + free + way, "older own alike copies", 30, 12);
        owed(take + free + way, "later own alike copies", 30, 0);
        owed(take + free + way, "later given alike copies", 30, 12);
        owed(take + free + way, "older given alike copies", 11, 12);
        owed(take + free + "as s for a like b day 6;as u for b like c day 29", "older own alike copies", 30, 0);
        owed(take + free + "as s for a like b day 6;as u for b like c day 29", "older own alike copies", 28, 12);
        // The free's day, if it is later than the as's.
        owed(take + "free f for b on w own day 11;as s for a like b day 2", "older own alike copies", 30, 12);
        owed(take + "free f for b on w own day 11;as s for a like b day 2", "later own alike copies", 30, 0);
        owed(take + "free f for b on w own day 2;as s for a like b day 1;renew f same day 20", "later own alike copies",
            30, 0);
        // Of fewest as, though later; of like ones by the as of least numbers.
        owed(take + free + "as s for a like b day 1;as u for b like c day 1;as z for a like c day 12",
            "older own alike copies", 30, 12);
        owed(take + "free f for d on w own day 8;as s for a like c day 12;as u for a like b day 1;as z for b like d day 1;"
            + "as q for c like d day 1", "older own alike copies", 30, 12);
        owed(take + "free f for d on w own day 8;as u for a like b day 1;as s for a like c day 12;as q for c like d day 1;"
            + "as z for b like d day 1", "older own alike copies", 30, 0);
        owed(take + "free f for b on w own day 1;as s for a like b day 1;lost s", "older own alike copies", 30, 12);
        owed(take + "free f for b on w own day 1;as s for b like a day 1", "older own alike copies", 30, 12);
        // His own place's, though as lead back to it.
        owed(take + "free f for a on w own day 9;as s for a like b day 20;as u for b like a day 20",
            "older own alike copies", 30, 0);
    }

    private static void winners() {
        TollBars x = Check.sound(LAND + "take t at x on w coin 3 day 10;take u at y on v coin 2 day 40;"
            + "free e for b on w own day 1;free f for a on w own day 12;free h for a on all both day 9;" + LAWS + CART);
        Check.due("wins by older", x.wins(0, 0, 30, 0), 8);
        Check.due("wins by later", x.wins(0, 0, 30, 1), 7);
        Check.due("wins ahead of all", x.wins(0, 0, 8, 0), -2);
        // A take needn't be in force nor on the cart's goods to be won against.
        Check.due("wins against another take", x.wins(0, 1, 30, 0), 7);
        Check.due("trouble", x.trouble(), 0);
        refuse("wins cart", x, x.wins(1, 0, 30, 0), 1);
        refuse("wins cart -1", x, x.wins(-1, 0, 30, 0), 1);
        refuse("wins take", x, x.wins(0, 2, 30, 0), 1);
        refuse("wins take -1", x, x.wins(0, -1, 30, 0), 1);
        refuse("wins free", x, x.wins(0, 6, 30, 0), 1);
        refuse("wins law", x, x.wins(0, 0, 30, 2), 1);
        refuse("wins day", x, x.wins(0, 0, 1000, 0), 2);
        refuse("wins day and law", x, x.wins(0, 0, -1, 3), 1);
    }

    private static void refuse(String call, TollBars x, int got, int trouble) {
        Check.due(call, got, -1);
        Check.due(call + ": trouble", x.trouble(), trouble);
    }

    private static void refusals() {
        TollBars x = Check.sound(LAND + "take t at x on w coin 3 day 10;" + LAWS + CART);
        refuse("owes cart", x, x.owes(1, 0, 30, 0), 1);
        refuse("owes cart -1", x, x.owes(-1, 0, 30, 0), 1);
        refuse("owes bridge", x, x.owes(0, 2, 30, 0), 1);
        refuse("owes bridge -1", x, x.owes(0, -1, 30, 0), 1);
        refuse("owes law", x, x.owes(0, 0, 30, 2), 1);
        refuse("owes law min", x, x.owes(0, 0, 30, Integer.MIN_VALUE), 1);
        refuse("owes day", x, x.owes(0, 0, 1000, 0), 2);
        refuse("owes day -1", x, x.owes(0, 0, -1, 0), 2);
        refuse("owes law and day", x, x.owes(0, 0, -1, 2), 1);
        Check.due("owes on 999", x.owes(0, 0, 999, 0), 12);
        Check.due("owes on 0", x.owes(0, 0, 0, 0), 0);
        Check.due("judge right", x.judge(0, 0, 10, 0, 12), 1);
        Check.due("judge wrong", x.judge(0, 0, 10, 0, -1), 0);
        refuse("judge bridge", x, x.judge(0, 2, 10, 0, -1), 1);
        refuse("judge day", x, x.judge(0, 0, 1000, 0, -1), 2);
        refuse("sure cart", x, x.sure(1, 0, 10, 0, true), 1);
        refuse("sure day", x, x.sure(0, 0, 1000, 0, true), 2);
        Check.due("sure without spans", x.sure(0, 0, 10, 0, true), 12);
        refuse("force grant", x, x.force(1, 10, 0), 1);
        refuse("force grant -1", x, x.force(-1, 10, 0), 1);
        refuse("force grant 6", x, x.force(6, 10, 0), 1);
        refuse("force grant 12", x, x.force(12, 10, 0), 1);
        refuse("force grant 16", x, x.force(16, 10, 0), 1);
        refuse("force law", x, x.force(0, 10, -1), 1);
        refuse("force day", x, x.force(0, 1000, 0), 2);
        refuse("force grant and day", x, x.force(1, 1000, 0), 1);
        Check.due("force", x.force(0, 10, 0), 1);
        Check.due("force ahead", x.force(0, 9, 0), 0);
    }

    private static void leastAndMost() {
        TollBars x = Check.sound(LAND + "take t at x on w coin 3 day 10 to 20;take u at x on w coin 1 day 12;"
            + "free f for b on w own day 15;as s for a like b day 9 to 16;" + LAWS + CART);
        Check.due("first days", x.owes(0, 0, 30, 0), 16);
        Check.due("least by older", x.sure(0, 0, 30, 0, false), 4);
        Check.due("most by older", x.sure(0, 0, 30, 0, true), 16);
        Check.due("least by later", x.sure(0, 0, 30, 1, false), 0);
        Check.due("most by later", x.sure(0, 0, 30, 1, true), 12);
        Check.due("least on a day ahead of some", x.sure(0, 0, 14, 1, false), 4);
        Check.due("most on a day ahead of some", x.sure(0, 0, 14, 1, true), 16);
        Check.due("owes is by first days still", x.owes(0, 0, 30, 0), 16);
        Check.due("at another bridge", x.sure(0, 1, 30, 0, true), 0);
        // 20 times 20 times 5 is just 2,000; twice as many are too many.
        String spans = "free f for b on w own day 0 to 19;free h for b on w own day 0 to 19;lost h;";
        TollBars y = Check.sound(LAND + spans + "take t at x on w coin 3 day 0 to 4;" + LAWS + CART);
        Check.due("2,000 choices", y.sure(0, 0, 30, 0, true), 12);
        Check.due("trouble", y.trouble(), 0);
        TollBars z = Check.sound(LAND + spans + "take t at x on w coin 3 day 0 to 4;as s for c like d day 0 to 1;"
            + LAWS + CART);
        refuse("more choices", z, z.sure(0, 0, 30, 0, true), 3);
        refuse("a bad day is told first", z, z.sure(0, 0, 1000, 0, true), 2);
        Check.due("a day is known", z.date(12, 1), true);
        Check.due("2,000 choices now", z.sure(0, 0, 30, 0, false), 12);
        StringBuilder most = new StringBuilder(LAND);
        for (char c = 'a'; c <= 'f'; c++) {
            most.append("take t" + c + " at x on w coin 1 day 0 to 20;free f" + c + " for b on w own day 0 to 20;");
        }
        TollBars q = Check.sound(most + "as s for c like d day 0 to 20;" + "law l older own alike copies" + CART);
        refuse("very many choices", q, q.sure(0, 0, 30, 0, true), 3);
    }

    /** Least and most stand at choices where several spans are at their ends. */
    private static void severalSpans() {
        TollBars x = Check.sound(LAND + "take t at x on w coin 1 day 9 to 10;take u at x on w coin 2 day 12 to 13;"
            + "free f for b on w own day 8;as s for a like b day 8 to 12;as z for c like d day 1;" + LAWS + CART);
        Check.due("later, least: s of 12, u of 12", x.sure(0, 0, 30, 1, false), 0);
        Check.due("later, most: s of 8", x.sure(0, 0, 30, 1, true), 12);
        Check.due("older, least: s of 8", x.sure(0, 0, 30, 0, false), 0);
        Check.due("older, most: s of 11", x.sure(0, 0, 30, 0, true), 4);
    }

    private static void chains() {
        TollBars x = Check.sound("place a;place b;place c;place d;place e;as s for b like e day 3;as t for a like d day 5;"
            + "as u for a like b day 5;as v for d like c day 5;lost s copied;" + LAWS);
        int[] reached = {3, 1, 2, 4};
        for (int i = 0; i < 4; i++) {
            Check.due("chain " + i, x.chain(0, 5, 0, i), reached[i]);
        }
        refuse("chain 4", x, x.chain(0, 5, 0, 4), 1);
        refuse("chain -1", x, x.chain(0, 5, 0, -1), 1);
        refuse("chain min", x, x.chain(0, 5, 0, Integer.MIN_VALUE), 1);
        refuse("chain max", x, x.chain(0, 5, 0, Integer.MAX_VALUE), 1);
        Check.due("chain by papers", x.chain(0, 5, 1, 2), 2);
        refuse("chain by papers ends", x, x.chain(0, 5, 1, 3), 1);
        refuse("chain ahead of days", x, x.chain(0, 4, 0, 0), 1);
        Check.due("chain of b", x.chain(1, 4, 0, 0), 4);
        refuse("chain place", x, x.chain(5, 5, 0, 0), 1);
        refuse("chain place -1", x, x.chain(-1, 5, 0, 0), 1);
        refuse("chain law", x, x.chain(0, 5, 2, 0), 1);
        refuse("chain day", x, x.chain(0, 1000, 0, 9), 2);
        refuse("ring place", x, x.ring(5, 5, 0), 1);
        refuse("ring law", x, x.ring(0, 5, 2), 1);
        refuse("ring day", x, x.ring(0, -1, 0), 2);
        Check.due("no ring", x.ring(0, 5, 0), 0);
        TollBars y = Check.sound("place a;place b;place c;place d;as s for a like b day 3;as t for b like c day 4;"
            + "as u for c like b day 5;as v for d like a day 1;" + LAWS);
        Check.due("ring of a", y.ring(0, 9, 0), 0);
        Check.due("ring of b", y.ring(1, 9, 0), 1);
        Check.due("ring of c", y.ring(2, 5, 0), 1);
        Check.due("ring of c ahead of its day", y.ring(2, 4, 0), 0);
        Check.due("ring of d", y.ring(3, 9, 0), 0);
        Check.due("itself is none", y.chain(1, 9, 0, 0), 2);
        refuse("itself is none: end", y, y.chain(1, 9, 0, 1), 1);
        Check.due("trouble", y.ring(1, 9, 0) * 10 + y.trouble(), 10);
    }

    public static void main(String[] args) {
        takes();
        freedoms();
        namedGoods();
        renewals();
        asOthersHave();
        winners();
        refusals();
        leastAndMost();
        severalSpans();
        chains();
        Check.end("OwesTest");
    }
}
