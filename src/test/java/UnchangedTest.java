import java.util.ArrayList;
import java.util.List;
import java.util.Random;

/**
 * What is refused changes nothing, and what only asks changes nothing: two objects get the same calls, one of them many
 * refused ones and questions between; both must tell the same at the end.
 */
public final class UnchangedTest {
    private static final int[] WILD = {Integer.MIN_VALUE, Integer.MIN_VALUE + 1, -65536, -1000, -2, -1, 0, 1, 2, 3, 8, 9, 20,
        21, 40, 100, 101, 128, 255, 300, 301, 400, 401, 999, 1000, 1500, 3000, 65535, 65536, 101000, Integer.MAX_VALUE - 1,
        Integer.MAX_VALUE};

    private final Random random;

    private UnchangedTest(int seed) { random = new Random(seed); }

    private int wild() { return WILD[random.nextInt(WILD.length)]; }

    /** Calls with any numbers; only their ends count. */
    private void ask(TapeStudio x) {
        x.seam(wild());
        x.nail(wild());
        x.marked(wild(), wild());
        x.sample(wild(), wild());
        x.told(wild(), wild());
        x.fault();
        x.fails(wild(), wild());
        x.out(wild());
        x.why(wild(), wild());
        x.lead(wild(), wild(), wild());
        x.quarrel(wild());
        x.open(wild());
        x.turns(wild());
        x.turnOf(wild(), wild());
        x.deep(wild());
        x.near(wild(), wild(), wild(), wild());
        x.rivals(wild(), wild(), wild());
        x.remade(wild(), wild());
        x.stretch(wild(), wild(), wild());
        x.unfound(wild(), wild());
        x.count(wild());
    }

    /** Calls that can't be. */
    private void refused(TapeStudio x) {
        Due.is("refused: strip", x.strip(301 + random.nextInt(9)), -1);
        Due.no("refused: sliver", x.sliver(10));
        Due.is("refused: cut", x.cut(0, 0), -1);
        Due.is("refused: turn", x.turn(-1), -1);
        Due.is("refused: loop", x.loop(100), -1);
        Due.is("refused: splice", x.splice(1, 1, 0), -1);
        Due.is("refused: machine", x.machine(50129, 0, 0), -1);
        Due.is("refused: copy", x.copy(0, 4), -1);
        Due.is("refused: speed", x.speed(0, 0, 9, 1), -1);
        Due.no("refused: lose", x.lose(-1));
        Due.no("refused: hang", x.hang(0, 30));
        Due.no("refused: read", x.read(0, 1000));
        Due.is("refused: go", x.go(101), -1);
        Due.no("refused: end", x.end(1201));
        Due.is("refused: make", x.make(8, 0), -1);
        Due.is("refused: make", x.make(0, 401), -1);
        Due.is("refused: tape", x.tape(301), -1);
    }

    private static void begin(TapeStudio x) {
        x.machine(50064, 3, 10);
        x.machine(60032, 4, 20);
        Due.strip(x, 1, 2, 3, 4, 5);
        Due.strip(x, 9, 8, 7, 6);
        x.sliver(1);
        x.read(1, 7);
    }

    private static void goOn(TapeStudio x) {
        x.cut(0, 2);
        x.copy(1, 1);
        x.speed(3, 0, 1, 3);
        x.hang(4, 3);
        x.go(5);
        Due.score(x, "a = mark 7; b = echo a after 1 by 9; c = turn b; put c at 1 on 2; again 2 by 2 { put a at 0 on 2; }");
        x.make(0, 5);
        Due.score(x, "a = take 9; put a at 3 on 3;");
        x.read(2, 9);
        Due.onTape(x, 9, 8, 7, 3, 2);
        Due.inHand(x, 5, 5, 5);
        Due.text(x, "a = take 5 ; x");
    }

    private static List<Integer> all(TapeStudio x) {
        List<Integer> all = new ArrayList<>();
        for (int i = -1; i < 30; i++) all.add(x.count(i));
        for (int s = 0; s < x.count(1); s++) {
            for (int what = 0; what < 11; what++) all.add(x.told(s, what));
            for (int i = 0; i < x.told(s, 2); i++) all.add(x.sample(s, i));
            for (int day = 0; day < 10; day++) all.add(x.marked(s, day));
        }
        for (int n = 0; n < 30; n++) all.add(x.nail(n));
        all.add(x.fault());
        for (int s = 0; s < 3; s++) {
            all.add(x.open(s));
            all.add(x.fails(s, 5));
            all.add(x.turns(s));
            all.add(x.turnOf(s, 1));
            all.add(x.deep(s));
        }
        for (int t = 0; t <= x.count(10); t++) {
            all.add(x.out(t));
            for (int k = 0; k < 6; k++) all.add(x.why(t, k));
            for (int what = 0; what < 3; what++) all.add(x.lead(t, 2, what));
        }
        for (int i = 0; i < 4; i++) all.add(x.quarrel(i));
        for (int m = 0; m < 4; m++) {
            for (int t = 0; t < 5; t++) {
                for (int what = 0; what < 4; what++) all.add(x.near(t, 2, m, what));
                all.add(x.rivals(t, 2, m));
            }
            all.add(x.remade(1, m));
            for (int k = 0; k < 5; k++) all.add(x.stretch(1, m, k));
            all.add(x.unfound(1, m));
        }
        int hand = x.count(4);
        x.strip(hand);
        for (int i = 0; i < hand; i++) all.add(x.sample(x.count(1) - 1, i));
        all.add(x.cut(2, 1));
        all.add(x.told(x.count(1) - 1, 10));
        return all;
    }

    public static void main(String[] args) {
        List<Integer> due = null;
        for (int seed = -1; seed < 40; seed++) {
            UnchangedTest test = new UnchangedTest(seed);
            TapeStudio x = new TapeStudio();
            for (int step = 0; step < 3; step++) {
                if (step == 1) begin(x);
                if (step == 2) goOn(x);
                if (seed >= 0) {
                    test.ask(x);
                    test.refused(x);
                    test.ask(x);
                }
            }
            List<Integer> told = all(x);
            if (due == null) due = told;
            for (int i = 0; i < due.size(); i++) Due.is("seed " + seed + ", answer " + i, told.get(i), due.get(i));
        }
        Due.close();
    }
}
