import java.util.ArrayList;
import java.util.List;

/** What is refused changes nothing: an object that got a refused call is held against one that got none. */
final class Refused {
    interface Calls { void on(TapeStudio x); }

    interface Call { long on(TapeStudio x); }

    interface Question { boolean on(TapeStudio x); }

    private Refused() { }

    static void is(String what, Calls ahead, Call call, long due) {
        TapeStudio asked = new TapeStudio();
        ahead.on(asked);
        Due.is(what, call.on(asked), due);
        TapeStudio spared = new TapeStudio();
        ahead.on(spared);
        same(what, later(asked), later(spared));
    }

    static void none(String what, Calls ahead, Call call) { is(what, ahead, call, Due.NONE); }

    static void no(String what, Calls ahead, Question question) {
        is(what, ahead, x -> question.on(x) ? 1 : 0, 0);
    }

    private static void same(String what, List<Integer> got, List<Integer> due) {
        Due.is(what + ", later answers", got.size(), due.size());
        for (int i = 0; i < due.size(); i++) Due.is(what + ", later answer " + i, got.get(i), due.get(i));
    }

    /** What later calls tell: some 300 of them, so that an object has fewer than 512 in all. */
    private static List<Integer> later(TapeStudio x) {
        List<Integer> all = new ArrayList<>();
        for (int i = 0; i < 12; i++) all.add(x.count(i));
        int strips = x.count(1);
        for (int s = 0; s < strips; s++) if (s < 3 || s >= strips - 3) strip(x, s, all);
        for (int nail = 0; nail < 30; nail++) all.add(x.nail(nail));
        pieces(x, all);
        tape(x, all);
        goOn(x, all);
        return all;
    }

    private static void strip(TapeStudio x, int s, List<Integer> all) {
        for (int what = 0; what <= 10; what++) all.add(x.told(s, what));
        for (int i = 0; i < 5; i++) all.add(x.sample(s, i));
        all.add(x.sample(s, x.told(s, 2) - 1));
        all.add(x.marked(s, x.count(0)));
        all.add(x.marked(s, 400));
    }

    private static void pieces(TapeStudio x, List<Integer> all) {
        for (int s = 0; s < 2; s++) {
            all.add(x.count(20 + s));
            all.add(x.open(s));
            all.add(x.fails(s, x.count(0)));
            all.add(x.turns(s));
            all.add(x.turnOf(s, 1));
            all.add(x.deep(s));
        }
        for (int t = 0; t < 4; t++) {
            all.add(x.out(t));
            all.add(x.why(t, 1));
            for (int what = 0; what < 3; what++) all.add(x.lead(t, 0, what));
        }
        all.add(x.quarrel(0));
    }

    private static void tape(TapeStudio x, List<Integer> all) {
        for (int m = 0; m < 3; m++) {
            for (int what = 0; what < 4; what++) all.add(x.near(0, 2, m, what));
            all.add(x.rivals(0, 2, m));
            all.add(x.remade(1, m));
            all.add(x.stretch(1, m, 1));
            all.add(x.unfound(1, m));
        }
    }

    /** Calls that change what is there: they show what no question does. */
    private static void goOn(TapeStudio x, List<Integer> all) {
        all.add(x.fault());
        all.add(x.score());
        all.add(x.feed(0x61203d20, 0x74616b65, 0x20303b20, 0x20202020, 0x20202020));
        all.add(x.fault());
        all.add(x.make(0, x.count(0)));
        int hand = x.count(4);
        all.add(x.strip(Math.max(1, hand - 3)));
        strip(x, x.count(1) - 1, all);
        all.add(x.tape(2));
        all.add(x.near(x.count(8) - 1, 1, 0, 0));
        all.add(x.hand(5 << 16 | 6, 7 << 16 | 8, 0, 0, 9));
        all.add(x.strip(10));
        all.add(x.cut(x.count(1) - 1, 1));
        strip(x, x.count(1) - 1, all);
        all.add(x.copy(x.count(1) - 1, x.count(5) - 1));
        all.add(x.read(0, 8) ? 1 : 0);
        all.add(x.marked(0, x.count(0)));
        all.add(x.machine(50064, 0, 0));
        all.add(x.go(1));
        all.add(x.drop());
        all.add(x.wipe());
    }
}
