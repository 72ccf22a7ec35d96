import java.util.NoSuchElementException;
import java.util.Random;

/** Calls of chance with any numbers in any state: nothing but led() throws, and that only its own exception. */
public final class WildTest {
    private static final int[] EDGES = {Integer.MIN_VALUE, -1000000, -2, -1, 0, 1, 2, 3, 5, 6, 7, 8, 11, 12, 15, 16, 20, 30,
        900, 901, 999, 1000, Integer.MAX_VALUE};
    private static final Random CHANCE = new Random(7);

    private static int any() {
        int kind = CHANCE.nextInt(4);
        return kind == 0 ? EDGES[CHANCE.nextInt(EDGES.length)] : kind == 1 ? CHANCE.nextInt(40) : CHANCE.nextInt(3);
    }

    private static boolean yes() {
        return CHANCE.nextBoolean();
    }

    private static void call(TollBars x, int which) {
        switch (which) {
            case 0: x.feed(any(), any(), any(), any(), any()); break;
            case 1: x.realm(any()); break;
            case 2: x.fault(); break;
            case 3: x.where(); break;
            case 4: x.owes(any(), any(), any(), any()); break;
            case 5: x.wins(any(), any(), any(), any()); break;
            case 6: x.judge(any(), any(), any(), any(), any()); break;
            case 7: x.sure(any(), any(), any(), any(), yes()); break;
            case 8: x.force(any(), any(), any()); break;
            case 9: x.chain(any(), any(), any(), any()); break;
            case 10: x.ring(any(), any(), any()); break;
            case 11: x.way(any(), any()); break;
            case 12: x.stop(any()); break;
            case 13: x.length(); break;
            case 14: x.partner(any(), any()); break;
            case 15: x.saves(any(), any(), any()); break;
            case 16: x.coin(any()); break;
            case 17: x.worth(any(), any()); break;
            case 18: x.hangs(any()); break;
            case 19: x.moves(any(), any()); break;
            case 20: x.brings(any(), any(), any(), any()); break;
            case 21: x.part(any(), any()); break;
            case 22: x.lose(any(), yes()); break;
            case 23: x.find(any()); break;
            case 24: x.date(any(), any()); break;
            case 25: x.grant(any(), any()); break;
            case 26: x.cart(any(), any()); break;
            case 27: x.size(any()); break;
            case 28: x.trouble(); break;
            default: led(x, any());
        }
    }

    private static void led(TollBars x, int i) {
        try {
            x.led(i);
        } catch (NoSuchElementException due) {
            Check.due("led refused where there is one", Check.led(x, i), -7);
        }
    }

    public static void main(String[] args) {
        for (int run = 0; run < 3000; run++) {
            TollBars x = new TollBars();
            if (run % 5 != 0) {
                Check.realm(x, RandomTest.text(1 + CHANCE.nextInt(21)));
            }
            int which = 0;
            try {
                for (int i = 0; i < 300; i++) {
                    which = CHANCE.nextInt(30);
                    call(x, which);
                }
                Check.due("a run without exceptions", 1, 1);
            } catch (RuntimeException thrown) {
                Check.due("call " + which + " threw " + thrown, 1, 0);
            }
        }
        Check.end("WildTest");
    }
}
