/** Promises 36 to 43: the tape laid on strips, and what is counted. */
public final class TapeTest {
    private static final int NONE = TapeStudio.NONE;

    public static void main(String[] args) {
        tape();
        wipe();
        near();
        ways();
        ties();
        misses();
        nearRefused();
        statesOfStrips();
        remade();
        longestFirst();
        fewestFirst();
        remadeRefused();
        remadeAnew();
        unfound();
        wholeTape();
        count();
        Due.close();
    }

    private static void tape() {
        TapeStudio x = new TapeStudio();
        Due.is("36: of an empty hand", x.tape(1), NONE);
        Due.ten(x, 1, 2, 3, 4, 5, 6, 7, 8, 9, 10);
        Due.is("36: none", x.tape(0), NONE);
        Due.is("36: below", x.tape(-1), NONE);
        Due.is("36: not so many", x.tape(11), NONE);
        Due.is("36: three", x.tape(3), 3);
        Due.is("36: the rest stays", x.count(4), 7);
        Due.is("36: behind them", x.tape(2), 5);
        x.strip(5);
        Due.strip(x, 1, 2, 3, 4, 5);
        Due.is("36: in their order", x.near(0, 5, 0, 0), 1);
        for (int i = 0; i < 3; i++) Due.is("36: many", Due.onTape(x, new int[300]), 305 + 300 * i);
        for (int i = 0; i < 10; i++) x.hand(0, 0, 0, 0, 0);
        Due.is("36: too many", x.tape(96), NONE);
        Due.is("36: the hand stays", x.count(4), 100);
        Due.is("36: 1000", x.tape(95), 1000);
        Due.is("36: one more", x.tape(1), NONE);
        Due.is("43: on the tape", x.count(8), 1000);
        Due.is("43: in the hand", x.count(4), 5);
    }

    private static void wipe() {
        TapeStudio x = new TapeStudio();
        Due.is("37: nothing", x.wipe(), 0);
        Due.strip(x, 5, 6, 7);
        Due.onTape(x, 5, 6);
        Due.is("37: two", x.wipe(), 2);
        Due.is("37: empty", x.count(8), 0);
        Due.is("38: nothing is near then", x.near(0, 1, 65535, 0), NONE);
        Due.is("37: again", x.wipe(), 0);
        Due.onTape(x, 7);
        Due.is("38: what came then", x.near(0, 1, 0, 2), 2);
    }

    private static void nears(String what, TapeStudio x, int t, int w, int m, int strip, int way, int place, int sum, int rivals) {
        Due.is(what + ", strip", x.near(t, w, m, 0), strip);
        Due.is(what + ", way", x.near(t, w, m, 1), way);
        Due.is(what + ", place", x.near(t, w, m, 2), place);
        Due.is(what + ", sum", x.near(t, w, m, 3), sum);
        Due.is(what + ", rivals", x.rivals(t, w, m), rivals);
    }

    private static void none(String what, TapeStudio x, int t, int w, int m) { nears(what, x, t, w, m, NONE, NONE, NONE, NONE, NONE); }

    private static void near() {
        TapeStudio x = new TapeStudio();
        Due.onTape(x, 100, 200, 310, 400);
        none("38: no strip", x, 0, 1, 65535);
        Due.strip(x, 0, 105, 195, 300, 420);
        // as it is from 1: 5 5 10 20; turned, and at other speeds nothing is so near
        nears("38: within 20", x, 0, 4, 20, 0, 0, 1, 40, 0);
        none("38: within 19", x, 0, 4, 19);
        nears("38: the first three", x, 0, 3, 10, 0, 0, 1, 20, 0);
        nears("38: the last", x, 3, 1, 20, 0, 0, 4, 20, 3);
        none("38: longer than the rest of the tape", x, 1, 4, 65535);
        Due.is("38: 4", x.near(0, 3, 10, 4), NONE);
        Due.is("38: -1", x.near(0, 3, 10, -1), NONE);
    }

    private static void ways() {
        TapeStudio x = new TapeStudio();
        Due.strip(x, 0, 100, 300, 601, 1000);
        Due.onTape(x, 601, 300, 100);
        nears("38: turned", x, 0, 3, 0, 0, 1, 1, 0, 0);
        x.wipe();
        Due.onTape(x, 50, 100, 200, 300, 450, 601, 800);
        nears("38: at half speed", x, 0, 7, 0, 0, 2, 1, 0, 0);
        x.wipe();
        Due.onTape(x, 0, 300, 1000);
        nears("38: at double speed", x, 0, 3, 0, 0, 3, 0, 0, 0);
        x.wipe();
        Due.onTape(x, 1000, 601, 300);
        nears("38: turned from its begin", x, 0, 3, 0, 0, 1, 0, 0, 0);
        x.wipe();
        Due.strip(x, -7, 0);
        Due.onTape(x, -7, -4, 0);
        // the quotient is cut toward 0: -7 + 7/2
        nears("38: half a step up", x, 0, 3, 0, 1, 2, 0, 0, 0);
        x.wipe();
        Due.strip(x, 0, -7);
        Due.onTape(x, 0, -3, -7);
        nears("38: half a step down", x, 0, 3, 0, 2, 2, 0, 0, 0);
    }

    private static void ties() {
        TapeStudio x = new TapeStudio();
        Due.strip(x, 9, 5, 5, 9);
        Due.strip(x, 5, 5);
        Due.onTape(x, 5, 5, 6);
        // strip 0: as it is at 1, turned at 1, half speed 9 7 5 5 5 7 9 at 2 and 3; strip 1: 1, 1, 2 of 5 5 5
        nears("38: alike", x, 0, 2, 0, 0, 0, 1, 0, 7);
        nears("38: two alike", x, 0, 2, 1, 0, 0, 1, 0, 7);
        Due.strip(x, 5, 6);
        // 5 6, 6 5, and two of 5 5 6
        Due.is("39: of one strip more", x.rivals(0, 2, 1), 7 + 4);
        // and 5 7, at half speed of the first one
        nears("38: nearer, in a later strip", x, 1, 2, 1, 2, 0, 0, 0, 12);
        TapeStudio y = new TapeStudio();
        Due.strip(y, 7);
        Due.onTape(y, 7);
        nears("38: a strip of one", y, 0, 1, 0, 0, 0, 0, 0, 3);
        Due.strip(y, 1, 3, 1, 3);
        y.wipe();
        Due.onTape(y, 3, 1);
        nears("38: by ways, then places", y, 0, 2, 0, 1, 0, 1, 0, 2);
        y.wipe();
        Due.onTape(y, 2, 2);
        // 1 3 1 3 and 3 1 3 1 at three places each, 1 2 3 2 1 2 3 at six, 1 1; 1 off each: then 2 at half speed is nearer
        nears("38: the least sum", y, 0, 2, 1, 1, 2, 0, 1, 12);
    }

    private static void misses() {
        TapeStudio x = new TapeStudio();
        Due.strip(x, -32768, 32767);
        Due.onTape(x, 32767, -32768);
        nears("38: turned", x, 0, 2, 0, 0, 1, 0, 0, 0);
        // as it is, turned, and two of -32768 -1 32767
        nears("38: within all", x, 0, 2, 65535, 0, 1, 0, 0, 4 - 1);
        nears("38: within less", x, 0, 2, 65534, 0, 1, 0, 0, 0);
        none("38: miss 65536", x, 0, 2, 65536);
        none("38: miss -1", x, 0, 2, -1);
    }

    private static void nearRefused() {
        TapeStudio x = new TapeStudio();
        int[] many = new int[120];
        Due.strip(x, many);
        Due.onTape(x, many);
        none("38: w 0", x, 0, 0, 0);
        none("38: w -1", x, 0, -1, 0);
        none("38: w 101", x, 0, 101, 0);
        Due.is("38: w 100", x.near(0, 100, 0, 0), 0);
        // 21 places as it is, 21 turned, 239 - 99 at half speed, none at double speed
        Due.is("39: w 100", x.rivals(0, 100, 0), 21 + 21 + 140 - 1);
        Due.is("38: the last time", x.near(20, 100, 0, 0), 0);
        none("38: beyond the tape", x, 21, 100, 0);
        none("38: below the tape", x, -1, 5, 0);
        none("38: far", x, Integer.MAX_VALUE, 100, 0);
        none("38: far below", x, Integer.MIN_VALUE, 100, 0);
    }

    private static void statesOfStrips() {
        TapeStudio x = new TapeStudio();
        Due.strip(x, 1, 2, 4);
        Due.onTape(x, 1, 2, 4);
        x.turn(0);
        nears("38: of a used one too", x, 0, 3, 0, 0, 0, 0, 0, 1);
        x.lose(1);
        nears("38: of a lost one not", x, 0, 3, 0, 0, 0, 0, 0, 0);
        Due.strip(x, 1, 2, 4);
        x.loop(2);
        nears("38: of a loop too", x, 0, 3, 0, 0, 0, 0, 0, 2);
        Due.is("40: remade", x.remade(3, 0), 1);
        TapeStudio y = new TapeStudio();
        Due.strip(y, 1, 2, 4);
        Due.onTape(y, 1, 2, 4);
        Due.is("40: of one there", y.remade(3, 0), 1);
        y.lose(0);
        Due.is("40: of a lost one", y.remade(3, 0), NONE);
        Due.is("42: of a lost one", y.unfound(3, 0), 0);
        none("38: of a lost one", y, 0, 3, 0);
    }

    private static void stretches(String what, TapeStudio x, int w, int m, int... begins) {
        Due.is(what + ", how many", x.remade(w, m), begins.length);
        for (int k = 0; k < begins.length; k++) Due.is(what + ", " + k, x.stretch(w, m, k), begins[k]);
        Due.is(what + ", no more", x.stretch(w, m, begins.length), NONE);
        Due.is(what + ", below", x.stretch(w, m, -1), NONE);
    }

    private static void remade() {
        TapeStudio x = new TapeStudio();
        stretches("40: an empty tape", x, 1, 0);
        Due.onTape(x, 1, 2, 3);
        Due.is("40: no strips", x.remade(1, 65535), NONE);
        Due.strip(x, 1, 2, 3, 50, 60);
        stretches("40: one", x, 1, 0, 0);
        Due.onTape(x, 60, 50);
        stretches("40: two", x, 2, 0, 0, 3);
        Due.is("40: none so long", x.remade(3, 0), NONE);
        Due.is("41: none so long", x.stretch(3, 0, 0), NONE);
        Due.onTape(x, 99);
        Due.is("40: what is in no strip", x.remade(1, 0), NONE);
        Due.is("40: nor within 38", x.remade(1, 38), NONE);
        // 2 3 26 50 55 60 at half speed
        stretches("40: but within 39", x, 1, 39, 0);
    }

    private static void longestFirst() {
        TapeStudio x = new TapeStudio();
        Due.onTape(x, 1, 2, 3, 4, 5, 6, 7);
        Due.strip(x, 1, 2, 3, 4);
        Due.strip(x, 3, 4, 5, 6);
        Due.strip(x, 5, 6, 7);
        stretches("41: the longest first one", x, 1, 0, 0, 4);
        // 4 and 3; a stretch of 4 at least leaves three behind
        Due.is("40: of 4 at least", x.remade(4, 0), NONE);
        x.lose(2);
        Due.strip(x, 6, 7);
        // 4 + 2 + 1, 4 + 1 + 2, 3 + .. : the longest first, then the longest second
        stretches("41: then the longest second one", x, 1, 0, 0, 4, 6);
        // of 2 at least: 4 leaves 5 6 7, of which 5 6 leaves 7 alone; 3 + 2 + 2 is left: 4 5, 6 7
        stretches("41: as far as it goes on", x, 2, 0, 0, 3, 5);
    }

    private static void fewestFirst() {
        TapeStudio x = new TapeStudio();
        Due.onTape(x, 10, 20, 30, 40, 50, 60);
        Due.strip(x, 10, 20, 30, 40);
        Due.strip(x, 50, 7);
        Due.strip(x, 8, 60);
        Due.strip(x, 10, 20, 30, 41);
        Due.strip(x, 40, 50, 60);
        stretches("40: the longest of two", x, 1, 0, 0, 4);
        // 10 .. 40 leaves too few for a stretch of 3
        stretches("40: as long as can be", x, 3, 0, 0, 3);
        x.lose(4);
        stretches("40: three then", x, 1, 0, 0, 4, 5);
    }

    private static void remadeRefused() {
        TapeStudio x = new TapeStudio();
        Due.strip(x, 1, 1, 1);
        Due.onTape(x, 1, 1, 1);
        int[][] wrong = {{0, 0}, {-1, 0}, {101, 0}, {1, -1}, {1, 65536}, {Integer.MIN_VALUE, 0}, {1, Integer.MAX_VALUE}};
        for (int[] wm : wrong) {
            Due.is("40: " + wm[0] + ", " + wm[1], x.remade(wm[0], wm[1]), NONE);
            Due.is("41: " + wm[0] + ", " + wm[1], x.stretch(wm[0], wm[1], 0), NONE);
            Due.is("42: " + wm[0] + ", " + wm[1], x.unfound(wm[0], wm[1]), NONE);
        }
        stretches("40: miss 65535", x, 1, 65535, 0);
        Due.is("40: longer than the tape", x.remade(100, 0), NONE);
        Due.is("41: far", x.stretch(1, 0, Integer.MAX_VALUE), NONE);
        x.wipe();
        Due.is("40: w 0 of an empty tape", x.remade(0, 0), NONE);
        Due.is("40: w 100 of an empty tape", x.remade(100, 0), 0);
    }

    /** What was found ahead is not taken for what is there now. */
    private static void remadeAnew() {
        TapeStudio x = new TapeStudio();
        Due.onTape(x, 1, 2, 3, 4);
        Due.strip(x, 1, 2);
        Due.is("40: half of it", x.remade(1, 0), NONE);
        Due.is("42: half of it", x.unfound(1, 0), 2);
        Due.strip(x, 3, 4);
        Due.is("40: a strip came", x.remade(1, 0), 2);
        Due.is("40: with another miss", x.remade(1, 1), 2);
        Due.is("40: with a wide one", x.remade(1, 3), 2);
        Due.is("42: a strip came", x.unfound(1, 0), NONE);
        Due.onTape(x, 9);
        Due.is("40: the tape is longer", x.remade(1, 0), NONE);
        Due.is("42: the tape is longer", x.unfound(1, 0), 4);
        x.wipe();
        Due.onTape(x, 4, 3, 2, 1, 2);
        Due.is("40: another tape of so many", x.remade(1, 0), 3);
        x.lose(0);
        Due.is("40: a strip was lost", x.remade(1, 0), NONE);
        Due.is("42: a strip was lost", x.unfound(1, 0), 2);
    }

    private static void unfound() {
        TapeStudio x = new TapeStudio();
        Due.is("42: an empty tape", x.unfound(1, 0), NONE);
        Due.strip(x, 1, 2, 3);
        Due.strip(x, 3, 90, 91);
        Due.onTape(x, 1, 2, 3, 90, 91, 5);
        Due.is("42: in stretches of 3", x.unfound(3, 0), 5);
        Due.is("42: of 4", x.unfound(4, 0), 0);
        Due.is("42: within 86", x.unfound(1, 86), NONE);
        Due.is("42: longer than the tape", x.unfound(7, 65535), 0);
        x.wipe();
        Due.onTape(x, 1, 2, 3, 7, 3, 90, 91);
        Due.is("42: between", x.unfound(2, 0), 3);
        x.wipe();
        Due.onTape(x, 7, 1, 2, 3);
        Due.is("42: the first", x.unfound(2, 0), 0);
        x.wipe();
        Due.onTape(x, 2, 3, 1);
        Due.is("42: the last", x.unfound(2, 0), 2);
    }

    private static void wholeTape() {
        TapeStudio x = new TapeStudio();
        int[] ramp = new int[300];
        for (int i = 0; i < 300; i++) ramp[i] = 2 * i;
        Due.strip(x, ramp);
        int[] tape = new int[300];
        for (int i = 0; i < 599; i++) {
            tape[i % 300] = i;
            if (i == 299) Due.onTape(x, tape);
        }
        Due.inHand(x, tape);
        x.tape(299);
        stretches("40: one stretch of 599", x, 100, 0, 0);
        x.drop();
        Due.onTape(x, ramp);
        // then 0 2 4 ..: as it is
        stretches("40: and one of 300", x, 100, 0, 0, 599);
        Due.onTape(x, java.util.Arrays.copyOf(ramp, 101));
        Due.is("43: 1000", x.count(8), 1000);
        stretches("40: and one of 101", x, 100, 0, 0, 599, 899);
        Due.is("42: all of it", x.unfound(100, 0), NONE);
        Due.is("40: the end is near too", x.near(900, 100, 0, 2), 1);
    }

    private static void count() {
        TapeStudio x = new TapeStudio();
        x.go(17);
        Due.strip(x, 1, 2, 3, 4);
        x.cut(0, 1);
        x.lose(1);
        x.machine(50064, 0, 0);
        x.machine(50064, 0, 0);
        Due.score(x, "");
        Due.score(x, "a = take 2; put a at 3 on 3;");
        x.make(1, 17);
        Due.onTape(x, 1, 2, 3);
        x.hand(0, 0, 0, 0, 0);
        x.strip(4);
        x.feed(0, 0, 0, 0, 0);
        x.end(11);
        int[] due = {17, 4, 2, 12, 6, 2, 2, 11, 3, 1, 6};
        for (int i = 0; i < due.length; i++) Due.is("43: " + i, x.count(i), due[i]);
        Due.is("43: a score of no order", x.count(20), 0);
        Due.is("43: a score of two", x.count(21), 2);
        for (int i : new int[] {-1, 11, 19, 22, 27, 28, Integer.MAX_VALUE, Integer.MIN_VALUE}) Due.is("43: " + i, x.count(i), NONE);
    }
}
