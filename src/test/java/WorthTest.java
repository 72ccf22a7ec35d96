/** Promises 18 to 23: coin, worth, hangs, moves, brings, part. */
public final class WorthTest {
    private static final String LAND = "place a;place b;place c;goods w;goods v;bridge x by a to b long 2;"
        + "bridge y by b to c long 1;man m of a since 5;man o of b since 0;";
    private static final String LAWS = "law l older own alike copies;law n later own alike papers;";
    private static final String CARTS = "cart k of m with w own loads 4 from a to b day 30;"
        + "cart q of o with v trade loads 2 from a to c day 12";

    private static void sums() {
        TollBars x = Check.sound(LAND + "take t at x on all coin 3 day 10;take u at y on v coin 5 day 12;"
            + "free f for a on w own day 20;" + LAWS + CARTS);
        Check.due("coin by older", x.coin(0), 12 + 6 + 10);
        Check.due("trouble", x.trouble(), 0);
        Check.due("coin by later", x.coin(1), 6 + 10);
        Check.due("worth of t", x.worth(0, 0), -18);
        Check.due("worth of u", x.worth(1, 0), -10);
        Check.due("worth of f by older", x.worth(6, 0), 0);
        Check.due("worth of f by later", x.worth(6, 1), 12);
        Check.due("trouble", x.trouble(), 0);
        Check.due("worth changes nothing", x.coin(0), 28);
        Check.due("lost", x.lose(1, true), true);
        Check.due("coin by copies", x.coin(0), 28);
        Check.due("coin by papers", x.coin(1), 6);
        Check.due("worth of a copied one", x.worth(1, 0), -10);
        Check.due("worth of one that is lost", x.worth(1, 1), 0);
        Check.due("worth changes no loss", x.grant(1, 2), 2);
        refuse("coin law", x, x.coin(2), -1, 1);
        refuse("coin law -1", x, x.coin(-1), -1, 1);
        refuse("worth grant", x, x.worth(2, 0), -1000000, 1);
        refuse("worth grant 7", x, x.worth(7, 0), -1000000, 1);
        refuse("worth grant 12", x, x.worth(12, 0), -1000000, 1);
        refuse("worth grant -1", x, x.worth(-1, 0), -1000000, 1);
        refuse("worth law", x, x.worth(0, 2), -1000000, 1);
        refuse("moves grant", x, x.moves(2, 0), -1, 1);
        refuse("moves law", x, x.moves(0, -1), -1, 1);
        Check.due("moves of one day", x.moves(0, 0), 0);
        refuse("hangs law", x, x.hangs(2), -1, 1);
        refuse("hangs without spans", x, x.hangs(0), -1, 6);
        TollBars none = Check.sound("place a;place b;" + LAWS + "goods w;man m of a since 0;"
            + "cart k of m with w own loads 1 from a to b day 1");
        Check.due("coin without a way", none.coin(0), 0);
    }

    private static void refuse(String call, TollBars x, int got, int none, int trouble) {
        Check.due(call, got, none);
        Check.due(call + ": trouble", x.trouble(), trouble);
    }

    private static void spans() {
        TollBars x = Check.sound(LAND + "take t at x on all coin 3 day 25 to 35;take u at x on w coin 5 day 10 to 12;"
            + "free f for a on w own day 11 to 31;as s for b like a day 12 to 13;" + LAWS + CARTS);
        // By the first days: k owes u alone, 20 (f of 11 wins against t of 25, not against u of 10).
        Check.due("coin", x.coin(0), 20);
        Check.due("moves t", x.moves(0, 0), 0);
        // u of 11 or 12 is younger than f.
        Check.due("moves u", x.moves(1, 0), 20);
        // f behind 25 doesn't win against t any longer.
        Check.due("moves f", x.moves(6, 0), 12);
        Check.due("moves s", x.moves(12, 0), 0);
        Check.due("hangs", x.hangs(0), 1);
        Check.due("trouble", x.trouble(), 0);
        Check.due("nothing has moved", x.coin(0), 20);
        Check.due("a day is known", x.date(1, 10), true);
        Check.due("hangs now", x.hangs(0), 6);
        Check.due("another day is known", x.date(6, 11), true);
        Check.due("of like ones the first", x.hangs(0), 0);
        TollBars one = Check.sound(LAND + "take t at x on all coin 3 day 9 to 9;" + LAWS + CARTS);
        refuse("a span of one day is none", one, one.hangs(0), -1, 6);
        Check.due("and moves nothing", one.moves(0, 0), 0);
        TollBars late = Check.sound(LAND + "take t at x on all coin 3 day 11 to 31;" + LAWS + CARTS);
        Check.due("most less least", late.moves(0, 0), 18);
        TollBars mid = Check.sound(LAND + "take t at x on w coin 3 day 8 to 10;free f for a on w own day 9;"
            + "law p older own alike copies;" + CARTS);
        // Owed on the first of three days alone.
        Check.due("by the first day", mid.moves(0, 0), 12);
        TollBars last = Check.sound(LAND + "take t at x on w coin 3 day 30 to 31;" + LAWS + CARTS);
        Check.due("by the last day", last.moves(0, 0), 12);
    }

    private static void renewals() {
        TollBars x = Check.sound(LAND + "take t at x on w coin 5 day 10;free f for a on v trade day 9;as s for a like b day 1;"
            + "renew t less day 20;" + LAWS + CARTS);
        Check.due("coin", x.coin(0), 8);
        Check.due("same on a later day", x.brings(0, 0, 21, 0), 12);
        Check.due("same on the same day", x.brings(0, 0, 20, 0), 12);
        Check.due("same on an earlier day", x.brings(0, 0, 19, 0), 0);
        Check.due("same behind the cart's day", x.brings(0, 0, 31, 0), 0);
        Check.due("less on a later day", x.brings(0, 2, 25, 0), 0);
        // more is on all, so the second cart's goods too, on its day 12.
        Check.due("more on 12", x.brings(0, 1, 12, 0), 10);
        Check.due("more on 13", x.brings(0, 1, 13, 0), 0);
        Check.due("more on 21", x.brings(0, 1, 21, 0), 12);
        Check.due("more of a free", x.brings(6, 1, 30, 0), -8);
        Check.due("less of a free", x.brings(6, 2, 30, 0), 0);
        Check.due("same of a free", x.brings(6, 0, 30, 0), 0);
        Check.due("trouble", x.trouble(), 0);
        Check.due("coin as before", x.coin(0), 8);
        Check.due("renewals as before", x.grant(0, 6), 1);
        refuse("brings of an as", x, x.brings(12, 0, 0, 0), -1000000, 1);
        refuse("brings grant", x, x.brings(1, 0, 0, 0), -1000000, 1);
        refuse("brings grant -1", x, x.brings(-1, 0, 0, 0), -1000000, 1);
        refuse("brings how 3", x, x.brings(0, 3, 0, 0), -1000000, 1);
        refuse("brings how -1", x, x.brings(0, -1, 0, 0), -1000000, 1);
        refuse("brings law", x, x.brings(0, 0, 0, 2), -1000000, 1);
        refuse("brings day", x, x.brings(0, 0, 1000, 0), -1000000, 2);
        refuse("brings day -1", x, x.brings(0, 0, -1, 0), -1000000, 2);
        refuse("brings how and day", x, x.brings(0, 3, -1, 0), -1000000, 1);
        // By a later law a renewal makes a free as late as itself.
        TollBars y = Check.sound(LAND + "take t at x on w coin 5 day 10;free f for a on w own day 9;" + LAWS + CARTS);
        Check.due("later: a free renewed", y.brings(6, 0, 10, 1), -20);
        Check.due("later: a take renewed", y.brings(0, 0, 11, 1), 0);
        Check.due("older: a take renewed", y.brings(0, 0, 8, 0), 0);
    }

    private static void laws() {
        TollBars x = Check.sound(LAND + "take t at x on all coin 3 day 10;take u at y on v coin 5 day 12;"
            + "free f for b on v trade day 12;free h for b on v trade day 11;law p older own alike papers;" + LAWS + CARTS);
        // The second cart is free of u (day 12) by either; of t (day 10) by later alone.
        Check.due("part", x.part(0, 2), 10);
        Check.due("part turned about", x.part(2, 0), 10);
        Check.due("alike", x.part(0, 1), -2);
        Check.due("the same", x.part(2, 2), -2);
        Check.due("trouble", x.trouble(), 0);
        Check.due("lost u, copied", x.lose(1, true) && x.lose(6, false) && x.lose(7, false), true);
        Check.due("papers and copies", x.part(0, 1), 11);
        refuse("part one", x, x.part(3, 0), -1, 1);
        refuse("part other", x, x.part(0, -1), -1, 1);
    }

    public static void main(String[] args) {
        sums();
        spans();
        renewals();
        laws();
        Check.end("WorthTest");
    }
}
