import java.lang.reflect.Field;
import java.lang.reflect.Method;
import java.lang.reflect.Modifier;
import java.util.Arrays;
import java.util.Set;
import java.util.TreeSet;

/** The public face is the document's, and calls make no objects, however many there are. */
public final class FaceTest {
    private static final String[] FACE = {
        "int brings(int,int,int,int)", "int cart(int,int)", "int chain(int,int,int,int)", "int coin(int)",
        "boolean date(int,int)", "int fault()", "int feed(int,int,int,int,int)", "boolean find(int)",
        "int force(int,int,int)", "int grant(int,int)", "int hangs(int)", "int judge(int,int,int,int,int)",
        "int led(int)", "int length()", "boolean lose(int,boolean)", "int moves(int,int)", "int owes(int,int,int,int)",
        "int part(int,int)", "int partner(int,int)", "int realm(int)", "int ring(int,int,int)", "int saves(int,int,int)",
        "int size(int)", "int stop(int)", "int sure(int,int,int,int,boolean)", "int trouble()", "int way(int,int)",
        "int where()", "int wins(int,int,int,int)", "int worth(int,int)"};

    private static void face() {
        Set<String> found = new TreeSet<>();
        for (Method m : TollBars.class.getDeclaredMethods()) {
            if (Modifier.isPrivate(m.getModifiers())) {
                continue;
            }
            StringBuilder line = new StringBuilder(m.getReturnType() + " " + m.getName() + "(");
            for (Class<?> type : m.getParameterTypes()) {
                line.append(line.charAt(line.length() - 1) == '(' ? "" : ",").append(type);
            }
            found.add(line.append(")").toString());
            Check.due(m + " is public and no other", m.getModifiers(), Modifier.PUBLIC);
        }
        Set<String> want = new TreeSet<>(Arrays.asList(FACE));
        Check.due("face is " + found, found.equals(want), true);
        for (Field f : TollBars.class.getDeclaredFields()) {
            Check.due(f + " is private, but for NONE", Modifier.isPrivate(f.getModifiers()), !f.getName().equals("NONE"));
        }
        Check.due("constructors", TollBars.class.getDeclaredConstructors().length, 1);
        Check.due("final", Modifier.isFinal(TollBars.class.getModifiers()), true);
    }

    private static final String TEXT = "place a;place b;place c;goods w;bridge x by a to b long 2;man m of a since 5;"
        + "take t at x on all coin 3 day 10 to 20;free f for a on w own day 9 to 20;as s for a like b day 3;"
        + "renew t less day 20;law l older own alike copies;law n later own alike papers;"
        + "cart k of m with w own loads 4 from a to b day 30";

    private static void callAll(TollBars x) {
        x.owes(0, 0, 30, 0);
        x.wins(0, 0, 30, 0);
        x.judge(0, 0, 30, 0, 1);
        x.sure(0, 0, 30, 0, true);
        x.force(0, 30, 0);
        x.chain(0, 30, 0, 0);
        x.ring(0, 30, 0);
        x.way(0, 0);
        x.stop(0);
        x.length();
        x.partner(0, 0);
        x.saves(0, 1, 0);
        x.coin(0);
        x.worth(0, 0);
        x.hangs(0);
        x.moves(0, 0);
        x.brings(0, 0, 30, 0);
        x.part(0, 1);
        x.lose(0, false);
        x.find(0);
        x.date(12, 2);
        x.grant(0, 0);
        x.cart(0, 0);
        x.led(0);
        x.size(0);
        x.trouble();
    }

    /** All calls of a run live in one room, so a call may not make anything; a realm may not either. */
    private static void room() {
        com.sun.management.ThreadMXBean threads =
            (com.sun.management.ThreadMXBean) java.lang.management.ManagementFactory.getThreadMXBean();
        TollBars x = Check.sound(TEXT);
        callAll(x);
        x.realm(0);
        threads.getCurrentThreadAllocatedBytes();
        long before = threads.getCurrentThreadAllocatedBytes();
        for (int i = 0; i < 10; i++) {
            callAll(x);
            x.feed(0, 0, 0, 0, 0);
            x.realm(20);
        }
        long made = threads.getCurrentThreadAllocatedBytes() - before;
        Check.due("bytes made by 280 calls, in thousands (" + made + ")", made / 1000, 0);
    }

    public static void main(String[] args) {
        face();
        room();
        Check.end("FaceTest");
    }
}
