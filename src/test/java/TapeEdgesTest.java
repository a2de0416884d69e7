/**
 * The edges that the document names for the tape laid on strips (Terms ==== 4., promises 36 to 43): each sentence has a test
 * of its own.
 */
public final class TapeEdgesTest {
    private static final int NONE = TapeStudio.NONE;
    private static final int FAR = Integer.MAX_VALUE;
    private static final int FAR_BELOW = Integer.MIN_VALUE;

    public static void main(String[] args) {
        aTapeHasAtMost1000();
        tapeIsOfTheFirstOfTheHand();
        wipe();
        widthsAre1To100();
        missesAre0To65535();
        timesAreOnTheTape();
        othersThanNear();
        layingsAreOfWhatIsNotLost();
        soManyAreInBoth();
        eachTwoDifferByTheMissAtMost();
        ofLikeOnesByStripsWaysPlaces();
        rivalsAreAllOthers();
        nothingFits();
        remadeOfAnEmptyTape();
        stretchesHaveWSamplesAtLeast();
        stretchesReachTheEnd();
        theLongestFirst();
        stretchesThatAre();
        unfoundIsTheFirst();
        unfoundIsInNoStretch();
        counts();
        countsOfWhatIsFull();
        Due.close();
    }

    private static void fill(TapeStudio x, int samples) {
        for (int left = samples; left > 0; left -= 300) {
            for (int i = 0; i < 30; i++) x.hand(0, 0, 0, 0, 0);
            x.tape(Math.min(left, 300));
            x.drop();
        }
    }

    private static void aTapeHasAtMost1000() {
        Refused.Calls near = x -> {
            Due.ramp(x, 4, 1);
            fill(x, 995);
            Due.ten(x, 1, 2, 3, 4, 5, 6, 7, 8, 9, 10);
        };
        Refused.none("36: NONE if there would be more than 1000: 1001", near, x -> x.tape(6));
        Refused.none("36: NONE if there would be more than 1000: 1005", near, x -> x.tape(10));
        TapeStudio x = new TapeStudio();
        near.on(x);
        Due.is("36: 1000", x.tape(5), 1000);
        Due.is("43: samples on the TAPE", x.count(8), 1000);
        Due.is("36: 1001", x.tape(1), NONE);
        Due.is("38: the last time", x.near(999, 1, 2, 2), 3);
        Due.is("37: how many there were", x.wipe(), 1000);
        Due.is("36: room again", x.tape(5), 5);
    }

    private static void tapeIsOfTheFirstOfTheHand() {
        Refused.Calls ten = x -> {
            Due.ramp(x, 11, 1);
            Due.ten(x, 1, 2, 3, 4, 5, 6, 7, 8, 9, 10);
        };
        for (int n : new int[] {0, -1, 11, FAR, FAR_BELOW}) Refused.none("36: " + n, ten, x -> x.tape(n));
        Refused.none("36: of an empty hand", x -> { }, x -> x.tape(1));
        TapeStudio x = new TapeStudio();
        ten.on(x);
        Due.is("36: the first", x.tape(1), 1);
        Due.is("38: the first", x.near(0, 1, 0, 2), 1);
        Due.is("36: all the rest", x.tape(9), 10);
        Due.is("38: behind what is there", x.near(0, 10, 0, 2), 1);
        Due.is("36: the hand is empty then", x.count(4), 0);
    }

    private static void wipe() {
        TapeStudio x = new TapeStudio();
        Due.is("37: an empty one", x.wipe(), 0);
        Due.ramp(x, 4, 1);
        Due.onTape(x, 1);
        Due.is("37: one", x.wipe(), 1);
        Due.is("37: none then", x.wipe(), 0);
        Due.is("38: nothing is laid then", x.near(0, 1, 65535, 0), NONE);
        Due.is("37: what comes then is the first", Due.onTape(x, 2), 1);
        Due.is("38: what comes then is the first", x.near(0, 1, 0, 2), 2);
    }

    private static TapeStudio even() {
        TapeStudio x = new TapeStudio();
        Due.strip(x, new int[130]);
        fill(x, 120);
        return x;
    }

    private static void refusedWith(TapeStudio x, int w, int m) {
        for (int what = 0; what < 4; what++) Due.is("38: w " + w + ", m " + m, x.near(0, w, m, what), NONE);
        Due.is("39: w " + w + ", m " + m, x.rivals(0, w, m), NONE);
        Due.is("40: w " + w + ", m " + m, x.remade(w, m), NONE);
        Due.is("41: w " + w + ", m " + m, x.stretch(w, m, 0), NONE);
        Due.is("42: w " + w + ", m " + m, x.unfound(w, m), NONE);
    }

    private static void takenWith(TapeStudio x, int w, int m, int rivals) {
        for (int what = 0; what < 4; what++) Due.is("38: w " + w + ", m " + m, x.near(0, w, m, what), 0);
        Due.is("39: w " + w + ", m " + m, x.rivals(0, w, m), rivals);
        Due.is("40: w " + w + ", m " + m, x.remade(w, m), 1);
        Due.is("41: w " + w + ", m " + m, x.stretch(w, m, 0), 0);
        Due.is("42: w " + w + ", m " + m, x.unfound(w, m), NONE);
    }

    private static void widthsAre1To100() {
        TapeStudio x = even();
        for (int w : new int[] {0, 101, -1, FAR, FAR_BELOW}) refusedWith(x, w, 0);
        takenWith(x, 1, 0, 130 + 130 + 259 + 65 - 1);
        takenWith(x, 100, 0, 31 + 31 + 160 - 1);
        TapeStudio y = new TapeStudio();
        for (int w : new int[] {0, 101}) {
            Due.is("40: an empty TAPE, w " + w, y.remade(w, 0), NONE);
            Due.is("42: an empty TAPE, w " + w, y.unfound(w, 0), NONE);
        }
    }

    private static void missesAre0To65535() {
        TapeStudio x = even();
        for (int m : new int[] {-1, 65536, FAR, FAR_BELOW}) refusedWith(x, 2, m);
        takenWith(x, 2, 0, 129 + 129 + 258 + 64 - 1);
        takenWith(x, 2, 65535, 129 + 129 + 258 + 64 - 1);
        TapeStudio y = new TapeStudio();
        Due.is("40: an empty TAPE, m 65535", y.remade(1, 65535), 0);
        Due.is("40: an empty TAPE, m 65536", y.remade(1, 65536), NONE);
        Due.is("40: an empty TAPE, m -1", y.remade(1, -1), NONE);
    }

    private static void timesAreOnTheTape() {
        TapeStudio x = even();
        int[][] wrong = {{-1, 1}, {120, 1}, {119, 2}, {21, 100}, {FAR, 1}, {FAR, 100}, {FAR_BELOW, 1}, {FAR - 50, 100}};
        for (int[] tw : wrong) {
            Due.is("38: the TAPE hasn't so many, " + tw[0] + ", " + tw[1], x.near(tw[0], tw[1], 0, 0), NONE);
            Due.is("39: the TAPE hasn't so many, " + tw[0] + ", " + tw[1], x.rivals(tw[0], tw[1], 0), NONE);
        }
        for (int[] tw : new int[][] {{0, 1}, {119, 1}, {118, 2}, {20, 100}}) {
            Due.is("38: it has so many, " + tw[0] + ", " + tw[1], x.near(tw[0], tw[1], 0, 0), 0);
        }
        Due.is("38: an empty TAPE", new TapeStudio().near(0, 1, 0, 0), NONE);
    }

    private static void othersThanNear() {
        TapeStudio x = even();
        for (int what : new int[] {-1, 4, FAR, FAR_BELOW}) Due.is("38: NONE for others, " + what, x.near(0, 1, 0, what), NONE);
    }

    private static void layingsAreOfWhatIsNotLost() {
        TapeStudio x = new TapeStudio();
        Due.strip(x, 1, 2, 3);
        Due.onTape(x, 1, 2, 3);
        Due.is("38: THERE", x.near(0, 3, 0, 0), 0);
        x.loop(0);
        Due.is("38: USED", x.near(0, 3, 0, 0), 0);
        Due.is("39: and what was made of it", x.rivals(0, 3, 0), 1);
        x.lose(1);
        Due.is("39: not LOST", x.rivals(0, 3, 0), 0);
        TapeStudio y = new TapeStudio();
        Due.strip(y, 1, 2, 3);
        Due.onTape(y, 1, 2, 3);
        y.lose(0);
        Due.is("38: a LOST one", y.near(0, 3, 65535, 0), NONE);
        Due.is("40: a LOST one", y.remade(1, 65535), NONE);
        Due.is("42: a LOST one", y.unfound(1, 65535), 0);
    }

    private static void longest(String what, TapeStudio x, int way, int w) {
        Due.is(what + ": " + w + " samples", x.near(0, w, 0, 1), way);
        Due.is(what + ": one more", x.near(0, w + 1, 0, 1), NONE);
    }

    private static void soManyAreInBoth() {
        int[][] tapes = {{1, 9, 2, 8, 3, 3}, {3, 8, 2, 9, 1, 1}, {1, 5, 9, 6, 2, 5, 8, 6, 3, 3}, {1, 2, 3, 3}};
        int[] lengths = {5, 5, 9, 3};
        for (int way = 0; way < 4; way++) {
            TapeStudio x = new TapeStudio();
            Due.strip(x, 1, 9, 2, 8, 3);
            Due.onTape(x, tapes[way]);
            if (way == 2) {
                // 1 5 9 6 2 5 8 6 3: 9 + -7/2 is 6, 8 + -5/2 is 6
                longest("AT 1 BY 2 of 5", x, 2, 9);
            } else {
                longest("WAY " + way + " of 5", x, way, lengths[way]);
            }
        }
        TapeStudio x = new TapeStudio();
        Due.strip(x, 7);
        Due.onTape(x, 7, 7);
        Due.is("38: a strip of 1", x.near(1, 1, 0, 0), 0);
        Due.is("39: in all WAYS", x.rivals(1, 1, 0), 3);
        Due.is("38: hasn't 2", x.near(0, 2, 65535, 0), NONE);
        Due.is("40: in two stretches", x.remade(1, 0), 2);
        Due.strip(x, 7, 7);
        Due.is("38: a strip of 2", x.near(0, 2, 0, 0), 1);
        Due.is("39: as it is, turned, two places of 3, none of 1", x.rivals(0, 2, 0), 3);
        TapeStudio y = new TapeStudio();
        Due.ramp(y, 300, 2);
        int[] tape = new int[300];
        for (int i = 0; i < 300; i++) tape[i] = 299 + i;
        Due.onTape(y, tape);
        Due.is("40: the last of 599", y.remade(100, 0), 1);
        Due.onTape(y, 599);
        Due.is("40: and none behind it", y.remade(1, 0), NONE);
        Due.is("40: but near", y.remade(1, 1), 1);
    }

    private static void eachTwoDifferByTheMissAtMost() {
        TapeStudio x = new TapeStudio();
        Due.strip(x, 100, 205, 290, 400);
        Due.onTape(x, 100, 200, 300, 400);
        Due.is("38: within 10", x.near(0, 4, 10, 3), 15);
        Due.is("38: within 9", x.near(0, 4, 9, 3), NONE);
        Due.is("38: the first two within 5", x.near(0, 2, 5, 3), 5);
        Due.is("38: the first two within 4", x.near(0, 2, 4, 3), NONE);
        TapeStudio y = new TapeStudio();
        Due.strip(y, -32768);
        Due.onTape(y, 32767);
        Due.is("38: as far as can be", y.near(0, 1, 65535, 3), 65535);
        Due.is("38: one less", y.near(0, 1, 65534, 3), NONE);
        TapeStudio z = new TapeStudio();
        Due.strip(z, rowOf(100, 32767));
        Due.onTape(z, rowOf(100, -32768));
        Due.is("38: the greatest sum", z.near(0, 100, 65535, 3), 6553500);
    }

    private static int[] rowOf(int n, int sample) {
        int[] row = new int[n];
        java.util.Arrays.fill(row, sample);
        return row;
    }

    private static void nearest(String what, TapeStudio x, int strip, int way, int place, int sum) {
        int[] due = {strip, way, place, sum};
        for (int i = 0; i < 4; i++) Due.is("38: " + what + ", " + i, x.near(0, 2, 10, i), due[i]);
    }

    private static void ofLikeOnesByStripsWaysPlaces() {
        TapeStudio x = new TapeStudio();
        Due.onTape(x, 5, 6);
        Due.strip(x, 9, 9);
        nearest("of like ones by WAYS, then places", x, 0, 0, 0, 7);
        Due.strip(x, 5, 5);
        nearest("the least sum is ahead of STRIPS", x, 1, 0, 0, 1);
        Due.strip(x, 0, 5, 6, 0, 5, 6);
        nearest("of like ones by places", x, 2, 0, 1, 0);
        Due.strip(x, 5, 6);
        nearest("of like ones by STRIPS ahead of places", x, 2, 0, 1, 0);
        TapeStudio y = new TapeStudio();
        Due.onTape(y, 5, 6);
        Due.strip(y, 6, 5, 6, 5);
        nearest("by places, not by WAYS", y, 0, 0, 1, 0);
        y.lose(0);
        Due.strip(y, 6, 5, 9);
        nearest("by WAYS", y, 1, 1, 1, 0);
        Due.strip(y, 5, 6);
        nearest("by STRIPS ahead of WAYS", y, 1, 1, 1, 0);
    }

    private static void rivalsAreAllOthers() {
        TapeStudio x = new TapeStudio();
        Due.onTape(x, 5, 6);
        Due.strip(x, 5, 6);
        // as it is alone: 6 5 turned, 5 5 6 at half speed has one more
        Due.is("39: one RIVAL", x.rivals(0, 2, 0), 1);
        TapeStudio y = new TapeStudio();
        Due.onTape(y, 5, 60);
        Due.strip(y, 5, 60);
        Due.is("39: no RIVAL", y.rivals(0, 2, 0), 0);
        Due.is("39: all that FIT, but one", y.rivals(0, 2, 60), 3);
    }

    private static void nothingFits() {
        TapeStudio x = new TapeStudio();
        Due.onTape(x, 5, 6);
        Due.is("38: no strip came", x.near(0, 1, 65535, 0), NONE);
        Due.is("39: no strip came", x.rivals(0, 1, 65535), NONE);
        Due.is("40: no strip came", x.remade(1, 65535), NONE);
        Due.is("42: no strip came", x.unfound(1, 65535), 0);
        Due.strip(x, 8, 8);
        Due.is("39: nothing FITS", x.rivals(0, 1, 1), NONE);
        Due.is("39: all FIT", x.rivals(0, 1, 3), 2 + 2 + 3 + 1 - 1);
    }

    private static void remadeOfAnEmptyTape() {
        TapeStudio x = new TapeStudio();
        Due.is("40: none for an empty one", x.remade(1, 0), 0);
        Due.is("40: none for an empty one", x.remade(100, 65535), 0);
        Due.is("41: no stretch", x.stretch(1, 0, 0), NONE);
        Due.is("42: no time", x.unfound(1, 0), NONE);
    }

    private static void remade(String what, TapeStudio x, int w, int m, int... begins) {
        Due.is("40: " + what, x.remade(w, m), begins.length);
        for (int k = 0; k < begins.length; k++) Due.is("41: " + what + ", " + k, x.stretch(w, m, k), begins[k]);
        for (int k : new int[] {-1, begins.length, FAR, FAR_BELOW}) {
            Due.is("41: " + what + ", none such " + k, x.stretch(w, m, k), NONE);
        }
    }

    private static void stretchesHaveWSamplesAtLeast() {
        TapeStudio x = new TapeStudio();
        Due.onTape(x, 1, 2, 3, 4, 5);
        Due.strip(x, 1, 2, 3);
        Due.strip(x, 3, 4, 5);
        remade("of 1 at least", x, 1, 0, 0, 3);
        remade("of 2 at least", x, 2, 0, 0, 3);
        Due.is("40: of 3 at least", x.remade(3, 0), NONE);
        Due.is("41: of 3 at least", x.stretch(3, 0, 0), NONE);
        Due.is("42: in stretches of 3 all are found", x.unfound(3, 0), NONE);
        Due.strip(x, 4, 5);
        Due.is("40: of 3 at least still", x.remade(3, 0), NONE);
        Due.onTape(x, 6);
        Due.strip(x, 4, 5, 6);
        remade("of 3 just", x, 3, 0, 0, 3);
        Due.is("40: longer than the TAPE", x.remade(7, 0), NONE);
    }

    private static void stretchesReachTheEnd() {
        TapeStudio x = new TapeStudio();
        Due.strip(x, 1, 2, 3);
        Due.onTape(x, 1, 2, 3, -70);
        Due.is("40: the end can't be", x.remade(1, 0), NONE);
        Due.is("41: nor its stretches", x.stretch(1, 0, 0), NONE);
        remade("the end can be", x, 1, 71, 0, 3);
        x.wipe();
        Due.onTape(x, 70, 1, 2, 3);
        Due.is("40: the begin can't be", x.remade(1, 0), NONE);
        x.wipe();
        Due.onTape(x, 1);
        remade("one sample", x, 1, 0, 0);
        Due.is("40: one sample, of 2 at least", x.remade(2, 0), NONE);
    }

    private static void theLongestFirst() {
        TapeStudio x = new TapeStudio();
        Due.onTape(x, 1, 2, 3, 4, 5, 6, 7, 8);
        Due.strip(x, 1, 2, 3, 4, 5);
        Due.strip(x, 3, 4, 5, 6, 7, 8);
        remade("the longest first one", x, 1, 0, 0, 5);
        remade("as long as leaves w", x, 4, 0, 0, 4);
        Due.is("40: of 5 at least", x.remade(5, 0), NONE);
        TapeStudio y = new TapeStudio();
        Due.onTape(y, 1, 2, 3, 4, 5, 6);
        Due.strip(y, 1, 2, 3);
        Due.strip(y, 2, 3, 4, 5);
        Due.strip(y, 6, 0, 0);
        remade("then the longest second one", y, 1, 0, 0, 3, 5);
        TapeStudio z = new TapeStudio();
        Due.onTape(z, 1, 2, 3, 4, 5, 6, 7);
        Due.strip(z, 1, 2, 3, 4, 5);
        Due.strip(z, 3, 4, 5, 6, 7);
        Due.strip(z, 6, 7, 0);
        remade("the longest first one of two", z, 2, 0, 0, 5);
        remade("the longest that leaves 3", z, 3, 0, 0, 4);
    }

    private static void stretchesThatAre() {
        TapeStudio x = new TapeStudio();
        int[] samples = new int[300];
        for (int i = 0; i < 300; i++) samples[i] = i % 2 == 0 ? 90 : 7;
        Due.strip(x, 90);
        Due.strip(x, 7);
        for (int i = 0; i < 3; i++) Due.onTape(x, samples);
        Due.onTape(x, java.util.Arrays.copyOf(samples, 100));
        Due.is("40: as many stretches as samples", x.remade(1, 0), 1000);
        Due.is("41: the first", x.stretch(1, 0, 0), 0);
        Due.is("41: the last", x.stretch(1, 0, 999), 999);
        for (int k : new int[] {-1, 1000, FAR, FAR_BELOW}) Due.is("41: none such, " + k, x.stretch(1, 0, k), NONE);
    }

    private static void unfoundIsTheFirst() {
        TapeStudio x = new TapeStudio();
        Due.strip(x, 1, 2, 3);
        Due.onTape(x, 9, 1, 2, 3);
        Due.is("42: the first time", x.unfound(1, 0), 0);
        x.wipe();
        Due.onTape(x, 1, 2, 3, 9);
        Due.is("42: the last time", x.unfound(1, 0), 3);
        Due.is("42: within 6", x.unfound(1, 6), NONE);
        Due.is("42: within 5", x.unfound(1, 5), 3);
        x.wipe();
        Due.onTape(x, 1, 2, 3, 9, 3, 2, 9);
        Due.is("42: the first of two", x.unfound(2, 0), 3);
    }

    private static void unfoundIsInNoStretch() {
        TapeStudio x = new TapeStudio();
        Due.strip(x, 1, 2, 3);
        Due.strip(x, 3, 40, 50);
        Due.onTape(x, 1, 2, 3, 40, 50);
        Due.is("42: in stretches that overlap", x.unfound(3, 0), NONE);
        Due.is("42: a wider one FITS nowhere", x.unfound(4, 0), 0);
        Due.is("40: though they aren't side by side", x.remade(3, 0), NONE);
        x.wipe();
        Due.onTape(x, 1, 2, 1, 2, 3);
        Due.is("42: a stretch that is cut short is none", x.unfound(3, 0), 0);
        x.wipe();
        Due.onTape(x, 1, 2, 3, 1, 2);
        Due.is("42: nor one at the end", x.unfound(3, 0), 3);
        Due.is("42: of two it is one", x.unfound(2, 0), NONE);
        x.wipe();
        Due.onTape(x, 1, 2);
        Due.is("42: the TAPE hasn't so many", x.unfound(3, 0), 0);
    }

    private static void counts() {
        TapeStudio x = new TapeStudio();
        for (int what = 0; what <= 8; what++) Due.is("43: of nothing, " + what, x.count(what), 0);
        Due.is("43: no SCORE was MADE", x.count(9), NONE);
        Due.is("43: no PIECE", x.count(10), NONE);
        for (int what : new int[] {-1, 11, 12, 19, 20, 27, 28, FAR, FAR_BELOW}) {
            Due.is("43: others, " + what, x.count(what), NONE);
        }
        Due.score(x, "");
        Due.is("43: the first SCORE", x.count(20), 0);
        Due.is("43: no second SCORE", x.count(21), NONE);
        Due.is("43: none ahead of the first", x.count(19), NONE);
    }

    private static void countsOfWhatIsFull() {
        TapeStudio x = new TapeStudio();
        x.go(100);
        for (int i = 0; i < 4; i++) x.machine(50064, 0, 0);
        for (int i = 0; i < 100; i++) {
            if (i % 10 == 0) x.hand(1, 1, 1, 1, 1);
            x.strip(1);
        }
        x.lose(99);
        fill(x, 1000);
        for (int i = 0; i < 30; i++) x.hand(1, 1, 1, 1, 1);
        for (int i = 0; i < 8; i++) Due.score(x, i == 7 ? "a=take 0;put a at 1 on 0;" : "");
        x.make(7, 100);
        for (int i = 0; i < 60; i++) x.feed(0, 0, 0, 0, 0);
        int[] due = {100, 100, 99, 100, 300, 4, 8, 1200, 1000, 7, 2};
        for (int what = 0; what < due.length; what++) Due.is("43: of what is full, " + what, x.count(what), due[what]);
        Due.is("43: the last SCORE", x.count(27), 2);
        Due.is("43: none behind it", x.count(28), NONE);
    }
}
