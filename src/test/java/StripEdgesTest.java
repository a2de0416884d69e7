/**
 * The edges that the document names for strips, machines, nails, marks and days (Terms ==== 1., promises 1 to 21): each
 * sentence has a test of its own, with the last that is taken, the first that is refused, what is empty, what is full, and
 * what a refused call leaves as it was.
 */
public final class StripEdgesTest {
    private static final int NONE = TapeStudio.NONE;
    private static final int FAR = Integer.MAX_VALUE;
    private static final int FAR_BELOW = Integer.MIN_VALUE;

    public static void main(String[] args) {
        daysAre0To400();
        nowIs0AtFirst();
        samplesAre16Bits();
        beyondIsTheNearerEnd();
        quotientsAreCutToward0();
        stripsAreAtMost100();
        stripsHave1To300Samples();
        samplesOfAllThatCameAreAtMost20000();
        samplesOfUsedAndLostCount();
        hissIsAtMost1000();
        wearIsAtMost1000();
        theHandHasAtMost300();
        aStripIsOfTheFirstOfTheHand();
        aCutPlaceIs1ToTheLengthLess1();
        oneSampleIsLeftBehindASliver();
        sliverIs0To9();
        whatIsUsedOrLostIsNotThere();
        loopsAreCutOnly();
        anglesAre0To20();
        anglesAreNotAboveTheShorterLength();
        bothAreOne();
        theSeamOfALoop();
        machinesAreAtMost4();
        machinesAsToldAre();
        wornIs1000();
        theLastPlaceIsTheSampleAlone();
        atIs1To8();
        whatComesByAMachineHasAtMost300();
        noSuchMachine();
        nailsAre0To29();
        onANailHangsOneAtMost();
        whatIsUsedOrLostHangsOnNone();
        marksAre0To999();
        readingsAreAtMost100();
        aMarkIsTheLatestUpToADay();
        go();
        samplesOfAStrip();
        factsOfAStrip();
        Due.close();
    }

    private static int[] rowOf(int n, int sample) {
        int[] row = new int[n];
        java.util.Arrays.fill(row, sample);
        return row;
    }

    /** Strips of one sample each, 10 for each feed. */
    private static void many(TapeStudio x, int strips) {
        for (int i = 0; i < strips; i++) {
            if (i % 10 == 0) x.hand(1, 2, 3, 4, 5);
            x.strip(1);
        }
        x.drop();
    }

    /** Has all but these of the 20000 samples: 65 strips of 300, one that fills up; the strips 0 and 1 aren't worn. */
    private static void allBut(TapeStudio x, int free) {
        x.machine(50064, 0, 0);
        Due.ramp(x, 300, 1);
        for (int i = 0; i < 64; i++) x.copy(0, 0);
        Due.ramp(x, 300, 2);
        Due.ramp(x, 200 - free, 1);
    }

    private static void daysAre0To400() {
        TapeStudio x = new TapeStudio();
        Due.strip(x, 1);
        x.read(0, 5);
        Due.is("DAYS are 0 .. 400: 0", x.marked(0, 0), 5);
        Due.is("DAYS are 0 .. 400: -1", x.marked(0, -1), NONE);
        Due.is("DAYS are 0 .. 400: 400", x.marked(0, 400), 5);
        Due.is("DAYS are 0 .. 400: 401", x.marked(0, 401), NONE);
        Due.is("DAYS are 0 .. 400: far", x.marked(0, FAR), NONE);
        Due.is("DAYS are 0 .. 400: far below", x.marked(0, FAR_BELOW), NONE);
    }

    private static void nowIs0AtFirst() {
        TapeStudio x = new TapeStudio();
        int[] due = {0, 0, 0, 0, 0, 0, 0, 0, 0, NONE, NONE};
        for (int i = 0; i < due.length; i++) Due.is("1: nothing is there, count " + i, x.count(i), due[i]);
        Due.is("1: the hand is empty", x.drop(), 0);
        Due.is("1: no strip", x.strip(1), NONE);
        Due.is("1: no sample", x.sample(0, 0), Due.NO_SAMPLE);
        Due.is("1: nothing hangs", x.nail(0), NONE);
        Due.is("1: an empty text", x.fault(), NONE);
        Due.is("1: no piece", x.out(0), Due.NO_SAMPLE);
        Due.is("1: no tape", x.wipe(), 0);
        Due.ramp(x, 3, 1);
        Due.is("1: the sliver is 0", x.cut(0, 2), 1);
        Due.is("1: and so nothing is lost", x.told(2, 2), 1);
        Due.is("1: NOW is 0", x.told(0, 7), 0);
    }

    private static void samplesAre16Bits() {
        TapeStudio x = new TapeStudio();
        Due.is("2: ten came", x.hand(0x7FFF8000, 0x80007FFF, 0xFFFF0000, 0x0000FFFF, 0x00010002), 10);
        Due.is("2: a strip of them", x.strip(10), 0);
        Due.row("SAMPLES are -32768 .. 32767", x, 0, 32767, -32768, -32768, 32767, -1, 0, 0, -1, 1, 2);
    }

    private static void beyondIsTheNearerEnd() {
        TapeStudio x = new TapeStudio();
        x.machine(50128, 0, 0);
        Due.strip(x, 16383, 16384, 32767, -16383, -16384, -16385, -32768);
        x.copy(0, 0);
        Due.row("beyond is the nearer end", x, 1, 32766, 32767, 32767, -32766, -32768, -32768, -32768);
        x.copy(1, 0);
        Due.row("and goes on from there", x, 2, 32767, 32767, 32767, -32768, -32768, -32768, -32768);
    }

    private static void quotientsAreCutToward0() {
        TapeStudio x = new TapeStudio();
        x.machine(50032, 0, 0);
        x.machine(40064, 0, 0);
        Due.strip(x, 1, -1, 3, -3, 2, -2);
        x.copy(0, 0);
        Due.row("quotients toward 0: level", x, 1, 0, 0, 1, -1, 1, -1);
        Due.strip(x, 0, 1, 0, -1, 0);
        x.speed(2, 0, 1, 2);
        Due.row("quotients toward 0: AT", x, 3, 0, 0, 1, 1, 0, 0, -1, -1, 0);
        Due.strip(x, 0, 99, 0, -99, 0);
        x.copy(4, 1);
        // 4000/990 + 1 = 5; 990: 990*99/1000 = 98; 1980: 99 - 980*99/1000 = 99 - 97; 2970: 970*-99/1000 = -96;
        // 3960: -99 + 960*99/1000 = -99 + 95
        Due.row("quotients toward 0: DRIFT", x, 5, 0, 98, 2, -96, -4);
        Due.strip(x, 0, -1, 1);
        Due.strip(x, -1, 0, 0);
        x.splice(6, 7, 2);
        // (-1*2 - 1*1)/3 = -1, (1*1 + 0*2)/3 = 0
        Due.row("quotients toward 0: splice", x, 8, 0, -1, 0, 0);
    }

    private static void stripsAreAtMost100() {
        Refused.Calls full = x -> {
            x.machine(50064, 0, 10);
            many(x, 97);
            Due.ramp(x, 4, 1);
            Due.ramp(x, 4, 2);
            Due.ramp(x, 4, 3);
            x.hand(1, 2, 3, 4, 5);
        };
        TapeStudio x = new TapeStudio();
        full.on(x);
        Due.is("at most 100 strips: they are there", x.count(1), 100);
        Refused.none("at most 100: strip", full, y -> y.strip(1));
        Refused.none("at most 100: cut", full, y -> y.cut(97, 1));
        Refused.none("at most 100: turn", full, y -> y.turn(97));
        Refused.none("at most 100: loop", full, y -> y.loop(97));
        Refused.none("at most 100: splice", full, y -> y.splice(97, 98, 1));
        Refused.none("at most 100: copy", full, y -> y.copy(97, 0));
        Refused.none("at most 100: speed", full, y -> y.speed(97, 0, 2, 1));
        Refused.Calls oneFree = y -> { x98(y); many(y, 1); };
        Refused.none("at most 100: of a cut two come", oneFree, y -> y.cut(96, 1));
        Refused.Call[] makers = {y -> y.strip(1), y -> y.turn(96), y -> y.loop(96), y -> y.splice(96, 97, 1),
            y -> y.copy(96, 0), y -> y.speed(96, 0, 2, 1)};
        for (int i = 0; i < makers.length; i++) {
            TapeStudio y = new TapeStudio();
            oneFree.on(y);
            y.hand(1, 2, 3, 4, 5);
            Due.is("at most 100: the 100th, by " + i, makers[i].on(y), 99);
            Due.is("at most 100: and then none, by " + i, y.strip(1), NONE);
        }
        TapeStudio y = new TapeStudio();
        x98(y);
        Due.is("at most 100: two pieces are 99 and 100", y.cut(96, 1), 98);
        Due.is("at most 100: both came", y.told(99, 2), 3);
    }

    private static void x98(TapeStudio x) {
        x.machine(50064, 0, 10);
        many(x, 96);
        Due.ramp(x, 4, 1);
        Due.ramp(x, 4, 2);
    }

    private static void stripsHave1To300Samples() {
        Refused.Calls three = x -> Due.ten(x, 1, 2, 3);
        Refused.none("1 to 300: 0", three, x -> x.strip(0));
        Refused.none("1 to 300: -1", three, x -> x.strip(-1));
        Refused.none("1 to 300: far below", three, x -> x.strip(FAR_BELOW));
        TapeStudio x = new TapeStudio();
        three.on(x);
        Due.is("1 to 300: 1", x.strip(1), 0);
        Due.row("1 to 300: 1", x, 0, 1);
        Due.is("1 to 300: 300", Due.strip(x, rowOf(300, 7)), 1);
        Due.is("1 to 300: the 300th", x.sample(1, 299), 7);
        Refused.Calls two = y -> {
            Due.ramp(y, 150, 1);
            Due.ramp(y, 152, 1);
        };
        Refused.none("1 to 300: 301 joined", two, y -> y.splice(0, 1, 1));
        TapeStudio y = new TapeStudio();
        two.on(y);
        Due.is("1 to 300: 300 joined", y.splice(0, 1, 2), 2);
        Due.is("1 to 300: 300 joined", y.told(2, 2), 300);
        Due.strip(y, 8);
        Due.strip(y, 9);
        Due.is("1 to 300: 1 joined", y.splice(3, 4, 1), 5);
        Due.row("1 to 300: 1 joined", y, 5, 8);
    }

    private static void samplesOfAllThatCameAreAtMost20000() {
        Refused.Calls nine = x -> {
            allBut(x, 9);
            x.hand(1, 2, 3, 4, 5);
        };
        TapeStudio x = new TapeStudio();
        nine.on(x);
        Due.is("at most 20000: 9 less came", x.count(3), 19991);
        Due.is("at most 20000: just as many", x.strip(9), 67);
        Due.is("at most 20000: all came", x.count(3), 20000);
        Due.is("at most 20000: one more", x.strip(1), NONE);
        Refused.none("at most 20000: strip", nine, y -> y.strip(10));
        Refused.none("at most 20000: turn", nine, y -> y.turn(65));
        Refused.none("at most 20000: loop", nine, y -> y.loop(65));
        Refused.none("at most 20000: copy", nine, y -> y.copy(65, 0));
        Refused.none("at most 20000: speed", nine, y -> y.speed(65, 0, 8, 1));
        Refused.none("at most 20000: splice", nine, y -> y.splice(65, 66, 20));
        Refused.none("at most 20000: cut", nine, y -> y.cut(65, 100));
        Refused.Call[] makers = {y -> y.strip(10), y -> y.turn(67), y -> y.loop(67), y -> y.copy(67, 0),
            y -> y.speed(67, 0, 1, 1), y -> y.cut(67, 5), y -> y.speed(1, 0, 8, 1)};
        int[] free = {10, 10, 10, 10, 10, 10, 38};
        for (int i = 0; i < makers.length; i++) {
            for (int less = 0; less < 2; less++) {
                TapeStudio y = new TapeStudio();
                allBut(y, free[i] + 10 - less);
                y.hand(1, 2, 3, 4, 5);
                y.strip(10);
                y.hand(1, 2, 3, 4, 5);
                Due.is("at most 20000: maker " + i + ", " + less + " too few", makers[i].on(y), less == 1 ? NONE : 68);
                Due.is("at most 20000: maker " + i + ", samples", y.count(3), 20000 - (less == 1 ? free[i] - 1 : 0));
            }
        }
        cutAndJoinedUpTo20000();
    }

    private static void cutAndJoinedUpTo20000() {
        for (int less = 0; less < 2; less++) {
            TapeStudio x = new TapeStudio();
            allBut(x, 18 - less);
            x.hand(1, 2, 3, 4, 5);
            x.strip(10);
            x.sliver(2);
            Due.is("at most 20000: what a sliver takes doesn't come, " + less, x.cut(67, 3), less == 1 ? NONE : 68);
            Due.is("at most 20000: it doesn't count, " + less, x.count(3), less == 1 ? 19993 : 20000);
            TapeStudio y = new TapeStudio();
            allBut(y, 17 - less);
            y.hand(1, 2, 3, 4, 5);
            y.strip(4);
            y.strip(6);
            Due.is("at most 20000: joined, " + less, y.splice(67, 68, 3), less == 1 ? NONE : 69);
        }
    }

    private static void samplesOfUsedAndLostCount() {
        TapeStudio x = new TapeStudio();
        Due.ramp(x, 5, 1);
        x.turn(0);
        x.lose(1);
        Due.is("samples of all that came: of what is used and lost", x.count(3), 10);
        Due.is("strips that came", x.count(1), 2);
        Due.is("those there", x.count(2), 0);
    }

    private static void hissIsAtMost1000() {
        TapeStudio x = new TapeStudio();
        x.machine(50064, 100, 0);
        x.machine(50064, 99, 0);
        x.machine(50064, 1, 0);
        Due.strip(x, 1, 2);
        for (int i = 0; i < 9; i++) x.copy(i, 0);
        Due.is("HISS 0 .. 1000: 900", x.told(9, 4), 900);
        x.copy(9, 1);
        Due.is("HISS 0 .. 1000: 999", x.told(10, 4), 999);
        x.copy(10, 2);
        Due.is("HISS 0 .. 1000: 1000", x.told(11, 4), 1000);
        x.copy(11, 2);
        Due.is("HISS 0 .. 1000, the nearer end: 1001", x.told(12, 4), 1000);
        x.speed(10, 0, 1, 1);
        Due.is("HISS 0 .. 1000, the nearer end: 1099", x.told(13, 4), 1000);
        x.turn(13);
        Due.is("HISS of what is made of it", x.told(14, 4), 1000);
        Due.is("HISS is 0 at first", x.told(0, 4), 0);
    }

    private static void wearIsAtMost1000() {
        TapeStudio x = new TapeStudio();
        x.machine(50064, 0, 200);
        x.machine(50064, 0, 150);
        Due.strip(x, 1, 2);
        Due.is("WEAR is 0 at first", x.told(0, 5), 0);
        for (int i = 0; i < 4; i++) x.copy(0, 0);
        x.copy(0, 1);
        Due.is("WEAR 0 .. 1000: 950", x.told(0, 5), 950);
        Due.is("WEAR 0 .. 1000: played once more", x.speed(0, 0, 1, 1), 6);
        Due.is("WEAR 0 .. 1000, the nearer end: 1150", x.told(0, 5), 1000);
        Due.is("of 5 and 6 WEAR 0", x.told(6, 5), 0);
    }

    private static void theHandHasAtMost300() {
        for (int free = 0; free <= 10; free++) {
            int taken = free;
            Refused.Calls ahead = x -> {
                for (int i = 0; i < 30; i++) x.hand(1, 2, 3, 4, 5);
                x.strip(taken);
            };
            if (free < 10) {
                Refused.none("2: NONE if there would be more than 300, " + free + " free", ahead, x -> x.hand(9, 9, 9, 9, 9));
            } else {
                TapeStudio x = new TapeStudio();
                ahead.on(x);
                Due.is("2: 300 are taken", x.hand(9, 9, 9, 9, 9), 300);
                Due.is("3: how many there were", x.drop(), 300);
            }
        }
        TapeStudio x = new TapeStudio();
        Due.is("3: of an empty hand", x.drop(), 0);
        Due.is("3: then ten are the first", x.hand(1, 2, 3, 4, 5), 10);
        Due.is("3: ten", x.drop(), 10);
        Due.is("3: none", x.count(4), 0);
    }

    private static void aStripIsOfTheFirstOfTheHand() {
        Refused.Calls ten = x -> Due.ten(x, 1, 2, 3, 4, 5, 6, 7, 8, 9, 10);
        Refused.none("4: not so many: 11", ten, x -> x.strip(11));
        Refused.none("4: not so many: far", ten, x -> x.strip(FAR));
        Refused.none("4: of an empty hand", x -> { }, x -> x.strip(1));
        TapeStudio x = new TapeStudio();
        ten.on(x);
        Due.is("4: all but one", x.strip(9), 0);
        Due.is("4: the hand has the rest", x.count(4), 1);
        Due.is("4: all there are", x.strip(1), 1);
        Due.row("4: the rest", x, 1, 10);
        Due.is("4: the hand is empty then", x.strip(1), NONE);
    }

    private static void aCutPlaceIs1ToTheLengthLess1() {
        Refused.Calls five = x -> {
            Due.strip(x, 1, 2, 3, 4, 5);
            x.hang(0, 3);
        };
        for (int at : new int[] {0, 5, -1, 6, FAR, FAR_BELOW}) {
            Refused.none("6: at " + at, five, x -> x.cut(0, at));
        }
        TapeStudio x = new TapeStudio();
        five.on(x);
        Due.is("6: at 1", x.cut(0, 1), 1);
        Due.row("6: ahead of 1", x, 1, 1);
        Due.row("6: from 1 on", x, 2, 2, 3, 4, 5);
        Due.is("6: at its length less 1", x.cut(2, 3), 3);
        Due.row("6: ahead of its last", x, 3, 2, 3, 4);
        Due.row("6: its last", x, 4, 5);
        Refused.none("6: a strip of 1", y -> Due.strip(y, 1), y -> y.cut(0, 1));
        Refused.none("6: a strip of 1", y -> Due.strip(y, 1), y -> y.cut(0, 0));
    }

    private static void oneSampleIsLeftBehindASliver() {
        for (int sliver = 0; sliver <= 9; sliver++) {
            int less = sliver;
            Refused.Calls eleven = x -> {
                Due.ramp(x, 11, 1);
                x.sliver(less);
            };
            Refused.none("6: one sample must be left, sliver " + less, eleven, x -> x.cut(0, 11 - less));
            TapeStudio x = new TapeStudio();
            eleven.on(x);
            Due.is("6: one is left, sliver " + less, x.cut(0, 10 - less), 1);
            Due.row("6: it is the last one, sliver " + less, x, 2, 10);
            Due.is("21: where it begins, sliver " + less, x.told(2, 10), 10);
            Due.is("6: ahead nothing is lost, sliver " + less, x.told(1, 2), 10 - less);
        }
        Refused.none("6: none would be left at all", x -> { Due.ramp(x, 5, 1); x.sliver(9); }, x -> x.cut(0, 1));
    }

    private static void sliverIs0To9() {
        for (int wrong : new int[] {-1, 10, FAR, FAR_BELOW}) {
            Refused.no("5: " + wrong, x -> { x.sliver(4); Due.ramp(x, 12, 1); }, x -> x.sliver(wrong));
        }
        TapeStudio x = new TapeStudio();
        Due.yes("5: 9", x.sliver(9));
        Due.yes("5: 0", x.sliver(0));
        Due.ramp(x, 2, 1);
        Due.is("5: 0 still", x.cut(0, 1), 1);
        Due.yes("5: 9 again", x.sliver(9));
        Due.ramp(x, 11, 1);
        Due.is("5: 9 is taken away", x.cut(3, 1), 4);
        Due.row("5: 9 is taken away", x, 5, 10);
    }

    private static void whatIsUsedOrLostIsNotThere() {
        Refused.Calls ahead = x -> {
            x.machine(50064, 0, 1);
            for (int i = 0; i < 4; i++) Due.ramp(x, 4, 1 + i);
            x.turn(1);
            x.lose(2);
        };
        for (int s : new int[] {1, 2, 5, -1, 100, FAR, FAR_BELOW}) {
            Refused.none("6: none such THERE, " + s, ahead, x -> x.cut(s, 1));
            Refused.none("7: none such THERE, " + s, ahead, x -> x.turn(s));
            Refused.none("8: none such THERE, " + s, ahead, x -> x.loop(s));
            Refused.none("10: no such one THERE, " + s, ahead, x -> x.splice(s, 0, 1));
            Refused.none("10: no such other THERE, " + s, ahead, x -> x.splice(0, s, 1));
            Refused.none("12: none such that it plays, " + s, ahead, x -> x.copy(s, 0));
            Refused.none("13: none such that it plays, " + s, ahead, x -> x.speed(s, 0, 1, 1));
            Refused.no("14: no such strip THERE, " + s, ahead, x -> x.lose(s));
            Refused.no("15: none such THERE, " + s, ahead, x -> x.hang(s, 1));
            Refused.no("15: none such THERE, on none, " + s, ahead, x -> x.hang(s, NONE));
        }
        TapeStudio x = new TapeStudio();
        ahead.on(x);
        Due.is("5 and 6 stay THERE: copied", x.copy(0, 0), 5);
        Due.is("5 and 6 stay THERE: and again", x.speed(0, 0, 1, 1), 6);
        Due.is("what 1 to 4 are made of is USED", x.cut(0, 1), 7);
        Due.is("what 1 to 4 are made of is USED", x.told(0, 1), 1);
        Due.yes("14: the first", x.lose(3));
        Due.yes("14: the last", x.lose(8));
        Due.is("14: LOST", x.told(8, 1), 2);
    }

    private static void loopsAreCutOnly() {
        Refused.Calls ahead = x -> {
            x.machine(50064, 0, 1);
            Due.ramp(x, 4, 1);
            Due.ramp(x, 4, 2);
            x.loop(0);
        };
        Refused.none("7: it is a LOOP", ahead, x -> x.turn(2));
        Refused.none("8: it is one", ahead, x -> x.loop(2));
        Refused.none("10: the one is a LOOP", ahead, x -> x.splice(2, 1, 1));
        Refused.none("10: the other is a LOOP", ahead, x -> x.splice(1, 2, 1));
        Refused.none("12: a LOOP isn't played", ahead, x -> x.copy(2, 0));
        Refused.none("13: a LOOP isn't played", ahead, x -> x.speed(2, 0, 1, 1));
        TapeStudio x = new TapeStudio();
        ahead.on(x);
        Due.is("LOOPS are cut", x.cut(2, 1), 3);
        Due.is("a PIECE of a LOOP is none", x.turn(3), 5);
        Due.is("and can be one", x.loop(4), 6);
    }

    private static void anglesAre0To20() {
        Refused.Calls ahead = x -> {
            Due.ramp(x, 30, 1);
            Due.ramp(x, 30, 2);
        };
        for (int angle : new int[] {-1, 21, FAR, FAR_BELOW}) {
            Refused.none("10: angle " + angle, ahead, x -> x.splice(0, 1, angle));
        }
        for (int angle : new int[] {0, 20}) {
            TapeStudio x = new TapeStudio();
            ahead.on(x);
            Due.is("10: angle " + angle, x.splice(0, 1, angle), 2);
            Due.is("10: length at angle " + angle, x.told(2, 2), 60 - angle);
            Due.is("10: the last of the one alone, " + angle, x.sample(2, 29 - angle), 29 - angle);
            Due.is("10: the first of the other alone, " + angle, x.sample(2, 30), 2 * angle);
        }
    }

    private static void anglesAreNotAboveTheShorterLength() {
        Refused.Calls ahead = x -> {
            Due.strip(x, 30, 60, 90);
            Due.strip(x, 1, 2, 3, 4, 5);
        };
        Refused.none("10: above the one's length", ahead, x -> x.splice(0, 1, 4));
        Refused.none("10: above the other's length", ahead, x -> x.splice(1, 0, 4));
        TapeStudio x = new TapeStudio();
        ahead.on(x);
        Due.is("10: the one's length", x.splice(0, 1, 3), 2);
        // (30*3 + 1*1)/4, (60*2 + 2*2)/4, (90*1 + 3*3)/4
        Due.row("10: the one's length", x, 2, 22, 31, 24, 4, 5);
        TapeStudio y = new TapeStudio();
        ahead.on(y);
        Due.is("10: the other's length", y.splice(1, 0, 3), 2);
        // (3*3 + 30)/4, (4*2 + 60*2)/4, (5 + 90*3)/4
        Due.row("10: the other's length", y, 2, 1, 2, 9, 32, 68);
    }

    private static void bothAreOne() {
        Refused.none("10: both are one", x -> Due.ramp(x, 5, 1), x -> x.splice(0, 0, 0));
        Refused.none("10: both are one", x -> Due.ramp(x, 5, 1), x -> x.splice(0, 0, 3));
    }

    private static void theSeamOfALoop() {
        TapeStudio x = new TapeStudio();
        Due.strip(x, 32767, -32768);
        Due.strip(x, 5);
        x.loop(0);
        x.loop(1);
        Due.is("9: as much as can be", x.seam(2), 65535);
        Due.is("9: of one sample", x.seam(3), 0);
        for (int s : new int[] {0, 1, 4, -1, FAR, FAR_BELOW}) Due.is("9: it is none, " + s, x.seam(s), NONE);
    }

    private static void machinesAreAtMost4() {
        Refused.Calls four = x -> {
            Due.ramp(x, 4, 1);
            for (int i = 0; i < 4; i++) Due.is("11: its number", x.machine(50064, i, i), i);
        };
        Refused.none("11: 4 came", four, x -> x.machine(50064, 0, 0));
        TapeStudio x = new TapeStudio();
        four.on(x);
        Due.is("11: the fourth plays", x.copy(0, 3), 1);
        Due.is("43: MACHINES", x.count(5), 4);
    }

    private static void machinesAsToldAre() {
        int[][] wrong = {{-1, 0, 0}, {129, 0, 0}, {999, 0, 0}, {50129, 0, 0}, {100129, 0, 0}, {101000, 0, 0}, {101128, 0, 0},
            {-1000, 0, 0}, {FAR, 0, 0}, {FAR_BELOW, 0, 0}, {50064, -1, 0}, {50064, 101, 0}, {50064, FAR, 0},
            {50064, FAR_BELOW, 0}, {50064, 0, -1}, {50064, 0, 201}, {50064, 0, FAR}, {50064, 0, FAR_BELOW}};
        for (int[] one : wrong) {
            Refused.none("11: it can't be: " + one[0] + ", " + one[1] + ", " + one[2], x -> Due.ramp(x, 4, 1),
                    x -> x.machine(one[0], one[1], one[2]));
        }
        TapeStudio x = new TapeStudio();
        Due.is("11: DRIFT -50, LEVEL 0", x.machine(0, 0, 0), 0);
        Due.is("11: DRIFT -50, LEVEL 128", x.machine(128, 100, 0), 1);
        Due.is("11: DRIFT 50, LEVEL 0", x.machine(100000, 0, 200), 2);
        Due.is("11: DRIFT 50, LEVEL 128", x.machine(100128, 100, 200), 3);
        Due.ramp(x, 22, 100);
        x.copy(0, 0);
        Due.is("11: at 950 by 1000", x.told(1, 2), 23);
        Due.is("11: LEVEL 0", x.sample(1, 22), 0);
        x.copy(0, 1);
        Due.is("11: LEVEL 128", x.sample(2, 20), 3800);
        Due.is("11: HISS 100", x.told(2, 4), 100);
        Due.is("11: ROUGH 0", x.told(0, 5), 0);
        x.copy(0, 3);
        Due.is("11: at 1050 by 1000", x.told(3, 2), 21);
        Due.is("11: DRIFT 50", x.sample(3, 20), 4200);
        Due.is("11: ROUGH 200", x.told(0, 5), 200);
        x.copy(0, 2);
        Due.is("11: HISS 0", x.told(4, 4), 0);
    }

    private static void wornIs1000() {
        Refused.Calls worn = x -> {
            x.machine(50064, 0, 200);
            x.machine(50064, 0, 199);
            Due.ramp(x, 4, 1);
            for (int i = 0; i < 4; i++) x.copy(0, 0);
            x.copy(0, 1);
        };
        TapeStudio x = new TapeStudio();
        worn.on(x);
        Due.is("WORN: 999 is not", x.told(0, 5), 999);
        Due.is("12: it is played", x.copy(0, 0), 6);
        Due.is("WORN: 1000 is", x.told(0, 5), 1000);
        Refused.none("12: WORN", y -> { worn.on(y); y.copy(0, 0); }, y -> y.copy(0, 0));
        Refused.none("13: WORN", y -> { worn.on(y); y.speed(0, 1, 1, 1); }, y -> y.speed(0, 0, 1, 1));
        Due.is("a WORN one can be turned", x.turn(0), 7);
        Due.is("and is WORN then", x.copy(7, 0), NONE);
    }

    private static void theLastPlaceIsTheSampleAlone() {
        TapeStudio x = new TapeStudio();
        x.machine(64, 0, 0);
        Due.strip(x, 9);
        x.speed(0, 0, 1, 8);
        Due.row("AT 1 BY 8 of one sample", x, 1, 9);
        x.speed(0, 0, 8, 1);
        Due.row("AT 8 BY 1 of one sample", x, 2, 9);
        x.copy(0, 0);
        Due.row("AT 950 BY 1000 of one sample", x, 3, 9);
        Due.strip(x, 9, 90);
        x.speed(4, 0, 1, 3);
        Due.row("at the last place the sample alone", x, 5, 9, 36, 63, 90);
        x.speed(4, 0, 2, 3);
        Due.row("the last place is passed by none", x, 6, 9, 63);
    }

    private static void atIs1To8() {
        Refused.Calls ahead = x -> {
            x.machine(50064, 5, 10);
            Due.ramp(x, 9, 10);
        };
        for (int wrong : new int[] {0, 9, -1, FAR, FAR_BELOW}) {
            Refused.none("13: p " + wrong, ahead, x -> x.speed(0, 0, wrong, 1));
            Refused.none("13: q " + wrong, ahead, x -> x.speed(0, 0, 1, wrong));
            Refused.none("13: both " + wrong, ahead, x -> x.speed(0, 0, wrong, wrong));
        }
        int[][] right = {{1, 1, 9}, {1, 8, 65}, {8, 1, 2}, {8, 8, 9}, {7, 8, 10}, {8, 7, 8}};
        for (int[] pq : right) {
            TapeStudio x = new TapeStudio();
            ahead.on(x);
            Due.is("13: p " + pq[0] + ", q " + pq[1], x.speed(0, 0, pq[0], pq[1]), 1);
            Due.is("13: length at p " + pq[0] + ", q " + pq[1], x.told(1, 2), pq[2]);
        }
    }

    private static void whatComesByAMachineHasAtMost300() {
        Refused.Calls ahead = x -> {
            x.machine(47064, 1, 10);
            x.machine(46064, 1, 10);
            Due.ramp(x, 300, 1);
            Due.ramp(x, 151, 1);
            Due.ramp(x, 172, 1);
        };
        // 299 * 1000 / 997 is 299, / 996 is 300; 150 * 2 is 300; 171 * 7 / 4 is 299
        Refused.none("12: 301 samples", ahead, x -> x.copy(0, 1));
        Refused.none("13: 301 samples", ahead, x -> x.speed(1, 0, 1, 2));
        TapeStudio x = new TapeStudio();
        ahead.on(x);
        Due.is("12: 300 samples", x.copy(0, 0), 3);
        Due.is("12: 300 samples", x.told(3, 2), 300);
        Due.is("13: 300 samples", x.speed(2, 0, 4, 7), 4);
        Due.is("13: 300 samples", x.told(4, 2), 300);
    }

    private static void noSuchMachine() {
        Refused.Calls ahead = x -> {
            Due.ramp(x, 4, 1);
            x.machine(50064, 0, 1);
        };
        for (int machine : new int[] {-1, 1, 4, FAR, FAR_BELOW}) {
            Refused.none("12: no such MACHINE, " + machine, ahead, x -> x.copy(0, machine));
            Refused.none("13: no such MACHINE, " + machine, ahead, x -> x.speed(0, machine, 1, 1));
        }
        Refused.none("12: none came", x -> Due.ramp(x, 4, 1), x -> x.copy(0, 0));
    }

    private static void nailsAre0To29() {
        Refused.Calls ahead = x -> {
            Due.ramp(x, 4, 1);
            x.hang(0, 29);
        };
        for (int nail : new int[] {-2, 30, FAR, FAR_BELOW}) {
            Refused.no("15: nail " + nail, ahead, x -> x.hang(0, nail));
            TapeStudio x = new TapeStudio();
            ahead.on(x);
            Due.is("16: nail " + nail, x.nail(nail), NONE);
        }
        TapeStudio x = new TapeStudio();
        ahead.on(x);
        Due.is("16: 29", x.nail(29), 0);
        Due.is("16: nothing", x.nail(28), NONE);
        Due.yes("15: 0", x.hang(0, 0));
        Due.is("16: 0", x.nail(0), 0);
        Due.is("15: it hangs on one of them", x.nail(29), NONE);
        Due.yes("15: none", x.hang(0, NONE));
        Due.is("21: NONE", x.told(0, 6), NONE);
        Due.is("16: none is no NAIL", x.nail(NONE), NONE);
        Due.yes("15: none again", x.hang(0, NONE));
    }

    private static void onANailHangsOneAtMost() {
        Refused.Calls ahead = x -> {
            Due.ramp(x, 4, 1);
            Due.ramp(x, 4, 1);
            x.hang(0, 0);
            x.hang(1, 1);
        };
        Refused.no("15: another one hangs there", ahead, x -> x.hang(1, 0));
        Refused.no("15: another one hangs there", ahead, x -> x.hang(0, 1));
        TapeStudio x = new TapeStudio();
        ahead.on(x);
        Due.yes("15: its own nail", x.hang(1, 1));
        Due.yes("15: on none hang many", x.hang(0, NONE));
        Due.yes("15: on none hang many", x.hang(1, NONE));
        Due.yes("15: the other one's nail is free", x.hang(1, 0));
    }

    private static void whatIsUsedOrLostHangsOnNone() {
        TapeStudio x = new TapeStudio();
        for (int i = 0; i < 6; i++) {
            Due.ramp(x, 4, 1);
            x.hang(i, i);
        }
        x.machine(50064, 0, 0);
        x.cut(0, 1);
        x.turn(1);
        x.loop(2);
        x.splice(3, 4, 1);
        x.lose(5);
        for (int i = 0; i < 6; i++) {
            Due.is("USED or LOST hangs on none: nail " + i, x.nail(i), NONE);
            Due.is("USED or LOST hangs on none: told " + i, x.told(i, 6), NONE);
        }
        x.hang(6, 3);
        x.copy(6, 0);
        Due.is("what a MACHINE plays hangs still", x.nail(3), 6);
        Due.is("what comes hangs on none", x.told(x.count(1) - 1, 6), NONE);
    }

    private static void marksAre0To999() {
        Refused.Calls ahead = x -> {
            Due.ramp(x, 4, 1);
            x.read(0, 7);
        };
        for (int mark : new int[] {-1, 1000, FAR, FAR_BELOW}) Refused.no("17: mark " + mark, ahead, x -> x.read(0, mark));
        for (int s : new int[] {-1, 1, FAR, FAR_BELOW}) {
            Refused.no("17: none such, " + s, ahead, x -> x.read(s, 7));
            TapeStudio x = new TapeStudio();
            ahead.on(x);
            Due.is("18: there is none such, " + s, x.marked(s, 0), NONE);
        }
        TapeStudio x = new TapeStudio();
        ahead.on(x);
        Due.yes("17: 0", x.read(0, 0));
        Due.is("18: 0", x.marked(0, 0), 0);
        Due.yes("17: 999", x.read(0, 999));
        Due.is("18: 999", x.marked(0, 0), 999);
        Due.strip(x, 1);
        Due.is("18: none", x.marked(1, 400), NONE);
    }

    private static void readingsAreAtMost100() {
        Refused.Calls ahead = x -> {
            Due.ramp(x, 4, 1);
            Due.ramp(x, 4, 1);
            for (int i = 0; i < 99; i++) x.read(i % 2, i);
        };
        TapeStudio x = new TapeStudio();
        ahead.on(x);
        Due.yes("17: the 100th", x.read(0, 500));
        Due.is("18: the 100th", x.marked(0, 0), 500);
        Due.is("18: the 98th", x.marked(1, 0), 97);
        Refused.no("17: 100 were read", y -> { ahead.on(y); y.read(1, 500); }, y -> y.read(0, 1));
        Refused.no("17: what is refused is no reading", y -> { ahead.on(y); y.read(2, 1); y.read(0, 1); },
                y -> y.read(2, 1) || y.read(0, 1));
    }

    private static void aMarkIsTheLatestUpToADay() {
        TapeStudio x = new TapeStudio();
        Due.strip(x, 1);
        x.go(5);
        x.read(0, 11);
        x.read(0, 12);
        x.go(3);
        x.read(0, 13);
        int[][] due = {{0, NONE}, {4, NONE}, {5, 12}, {7, 12}, {8, 13}, {9, 13}, {400, 13}};
        for (int[] one : due) Due.is("18: on day " + one[0], x.marked(0, one[0]), one[1]);
        x.lose(0);
        Due.yes("17: LOST, too", x.read(0, 14));
        Due.is("18: of a LOST one", x.marked(0, 8), 14);
        Due.strip(x, 2);
        x.loop(1);
        Due.yes("17: USED, too", x.read(1, 15));
        Due.is("18: of a USED one", x.marked(1, 8), 15);
    }

    private static void go() {
        for (int n : new int[] {-1, 101, FAR, FAR_BELOW}) {
            Refused.none("19: " + n, x -> { Due.ramp(x, 4, 1); x.go(7); }, x -> x.go(n));
        }
        TapeStudio x = new TapeStudio();
        Due.is("19: 0", x.go(0), 0);
        Due.is("19: 100", x.go(100), 100);
        Due.is("19: 1", x.go(1), 101);
        x.go(100);
        x.go(100);
        Due.is("19: up to 400: 399", x.go(98), 399);
        Due.is("19: up to 400: 400", x.go(1), 400);
        Due.is("19: 0 more", x.go(0), 400);
        Due.is("19: no further than 400: 1", x.go(1), 400);
        Due.is("19: no further than 400: 100", x.go(100), 400);
        Due.is("43: NOW", x.count(0), 400);
        Due.strip(x, 1);
        x.read(0, 3);
        Due.is("21: the last day", x.told(0, 7), 400);
        Due.is("18: on the last day", x.marked(0, 400), 3);
        Due.is("18: on the day ahead", x.marked(0, 399), NONE);
    }

    private static void samplesOfAStrip() {
        TapeStudio x = new TapeStudio();
        Due.strip(x, 7, 8, 9);
        x.turn(0);
        int[][] none = {{0, -1}, {0, 3}, {0, FAR}, {0, FAR_BELOW}, {2, 0}, {-1, 0}, {FAR, 0}, {FAR_BELOW, 0}};
        for (int[] one : none) {
            Due.is("20: none such, " + one[0] + ", " + one[1], x.sample(one[0], one[1]), Due.NO_SAMPLE);
        }
        Due.is("20: the first", x.sample(0, 0), 7);
        Due.is("20: the last", x.sample(0, 2), 9);
        Due.is("20: of the last strip", x.sample(1, 2), 7);
    }

    private static void factsOfAStrip() {
        TapeStudio x = new TapeStudio();
        x.machine(50064, 3, 4);
        Due.strip(x, 1, 2, 3, 4, 5, 6);
        Due.strip(x, 1, 2);
        x.go(1);
        x.sliver(1);
        x.cut(0, 2);
        x.splice(2, 1, 1);
        x.copy(3, 0);
        x.hang(5, 9);
        Due.facts("21: STRIP", x, 0, 0, 1, 6, 0, 0, 0, NONE, 0, NONE, NONE, 0);
        Due.facts("21: PIECE ahead", x, 2, 1, 1, 2, 0, 0, 0, NONE, 1, 0, NONE, 0);
        Due.facts("21: PIECE behind", x, 3, 1, 0, 3, 0, 0, 4, NONE, 1, 0, NONE, 3);
        Due.facts("21: JOINED", x, 4, 4, 0, 3, 0, 0, 0, NONE, 1, 2, 1, 0);
        Due.facts("21: COPIED", x, 5, 5, 0, 3, 1, 3, 0, 9, 1, 3, NONE, 0);
        for (int what : new int[] {-1, 11, FAR, FAR_BELOW}) Due.is("21: others, " + what, x.told(5, what), NONE);
        for (int s : new int[] {-1, 6, FAR, FAR_BELOW}) {
            for (int what = 0; what <= 10; what++) Due.is("21: none such, " + s, x.told(s, what), NONE);
        }
    }
}
