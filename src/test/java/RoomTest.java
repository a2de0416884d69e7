import com.sun.management.ThreadMXBean;
import java.lang.management.ManagementFactory;

/**
 * The room in which all calls of a run live: some 600,000 objects and arrays, 7.3 million fields and elements. An object
 * is 16 bytes at least and an element 4, all being ints here, so a run of a million bytes stays far below both.
 */
public final class RoomTest {
    private static final long MOST_BYTES = 1_000_000;
    private static final int MOST_CALLS = 512;
    private static final ThreadMXBean THREADS = (ThreadMXBean) ManagementFactory.getThreadMXBean();

    private RoomTest() { }

    private interface Calls { void make(TapeStudio x, int i); }

    private static long bytes() { return THREADS.getThreadAllocatedBytes(Thread.currentThread().getId()); }

    /** 512 calls on one object; what is made ahead of them counts too. */
    private static void run(String what, Calls calls) {
        long before = bytes();
        TapeStudio x = new TapeStudio();
        full(x);
        for (int i = 0; i < MOST_CALLS; i++) calls.make(x, i);
        long made = bytes() - before;
        Due.yes(what + " made " + made + " bytes", made <= MOST_BYTES);
    }

    /** 10 strips of 300, 4 machines, a tape of 1000, the hand, 7 scores and a text; the second score is made. */
    private static void full(TapeStudio x) {
        for (int i = 0; i < 10; i++) {
            for (int k = 0; k < 30; k++) x.hand(i * 7 + k, k, i + k, 3 * k, 5 * i);
            x.strip(300);
            x.read(i, i);
        }
        for (int i = 0; i < 4; i++) {
            for (int k = 0; k < 25; k++) x.hand(i + k, k, i + k, 3 * k, 5 * i);
            x.tape(250);
        }
        for (int i = 0; i < 4; i++) x.machine(50064, 1, 0);
        for (int k = 0; k < 30; k++) x.hand(k, k, k, k, k);
        for (int i = 0; i < 7; i++) Due.score(x, text(i));
        Due.text(x, text(0));
        x.make(1, 0);
    }

    /** Forty orders, most of rows as long as can be; of the first score nine steps. */
    private static String text(int number) {
        StringBuilder text = new StringBuilder("a=take " + number + ";");
        int orders = number == 0 ? 10 : 36;
        for (int i = 1; i < orders; i++) {
            char own = (char) ('a' + i % 26);
            String name = i < 26 ? "" + own : "z" + own;
            text.append(name).append(i % 2 == 0 ? "=loop a for 1500;" : "=echo a after 1 by 200;");
        }
        text.append("again 9 by 100{put c at 0 on 1;put e at 1 on 1;}put b at 3 on 2;put a at 0 on 2;");
        return text.toString();
    }

    /** What keeps something new, as often as it is taken. */
    private static void keep(TapeStudio x, int i) {
        if (i == 0) x.score();
        if (i % 2 == 0) x.copy(0, i % 4);
        else x.cut(x.count(1) - 1, 1);
        x.read(0, i);
        x.make(i % 8, 0);
    }

    public static void main(String[] args) {
        run("a new object", (x, i) -> { });
        run("hand", (x, i) -> { x.hand(i, i, i, i, i); if (i % 30 == 29) x.drop(); });
        run("tape", (x, i) -> { x.tape(1); if (i % 50 == 0) x.wipe(); });
        run("make", (x, i) -> x.make(i % 7, 0));
        run("fails", (x, i) -> x.fails(i % 7, 0));
        run("open", (x, i) -> x.open(1));
        run("fault", (x, i) -> x.fault());
        run("why and lead", (x, i) -> { x.why(i, 1); x.lead(i, 1, 2); });
        run("quarrel", (x, i) -> x.quarrel(i));
        run("turns", (x, i) -> { x.turns(0); x.turnOf(0, i % 10); x.deep(i % 7); });
        run("near", (x, i) -> { x.near(i, 100, 65535, 3); x.rivals(i, 1, 0); });
        run("remade", (x, i) -> { x.remade(1, i % 2); x.stretch(1, i % 2, i); x.unfound(1, i % 2); });
        run("what is kept", RoomTest::keep);
        Due.close();
    }
}
