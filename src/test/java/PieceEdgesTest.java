/**
 * The edges that the document names for what is made by scores (Terms ==== 2. from ROWS on and ==== 3., promises 26 to 35):
 * each sentence has a test of its own.
 */
public final class PieceEdgesTest {
    private static final int NONE = TapeStudio.NONE;
    private static final int FAR = Integer.MAX_VALUE;
    private static final int FAR_BELOW = Integer.MIN_VALUE;

    public static void main(String[] args) {
        takeIsOfAStripThere();
        markIsOfTheLeastStripThere();
        cutIsFromBelowTo();
        speedUpTo1500();
        anglesNotAboveALength();
        spliceUpTo1500();
        loopTillThereAreSoMany();
        echoFromTheAfterThOn();
        echoGoesNotBeyond();
        copyByAMachineThatIs();
        copyUpTo1500();
        filterHas0AtBothEnds();
        fadesNotAboveTheLength();
        gainGoesNotBeyond();
        aPutEndsAt3000AtMost();
        inAgainTheLastLayingCounts();
        aPieceIs0LongWithoutPuts();
        eachSampleIsTheSum();
        playingWearsNothing();
        theFirstThatFails();
        daysOfMaking();
        noSuchScore();
        outIsInThePiece();
        whyIsInThePiece();
        whyHasSoMany();
        leadIsInThePiece();
        leadOfTheFirstLaying();
        leadBackThroughOrders();
        quarrelsHaveATimeInCommon();
        quarrelsOnOneTrack();
        quarrelsOfOneWithItself();
        quarrelsEachOnce();
        openIfItWouldFail();
        openIfAMarkLeadsElsewhere();
        openNeverMade();
        stepsAre1To9();
        theBenchHasOneAtMost();
        machinesOfTheirOwn();
        turnOfNoStep();
        deepOfNoPut();
        deepOfNoneThere();
        Due.close();
    }

    private static TapeStudio with(int... samples) {
        TapeStudio x = new TapeStudio();
        Due.strip(x, samples);
        return x;
    }

    /** How long row z is. */
    private static void longAs(String what, TapeStudio x, String text, int due) {
        int score = Due.score(x, text + " put z at 0 on 0;");
        Due.is(what + ": length", x.make(score, x.count(0)), due);
    }

    private static void takeIsOfAStripThere() {
        TapeStudio x = with(1, 2);
        for (int i = 0; i < 99; i++) {
            if (i % 10 == 0) x.hand(0x30003, 0x30003, 0x30003, 0x30003, 0x30003);
            x.strip(1);
        }
        Due.makes("take: the first STRIP", x, "z = take 0;", 1, 2);
        Due.makes("take: the last STRIP", x, "z = take 99;", 3);
        x.lose(99);
        Due.fails("take: a LOST one", x, "z = take 99;", 0);
        TapeStudio y = with(1, 2);
        Due.fails("take: none such", y, "z = take 1;", 0);
        y.turn(0);
        Due.fails("take: a USED one", y, "a = take 1; z = take 0;", 1);
    }

    private static void markIsOfTheLeastStripThere() {
        TapeStudio x = with(1);
        Due.strip(x, 2);
        Due.strip(x, 3);
        Due.fails("mark: none was read", x, "z = mark 0;", 0);
        x.read(2, 0);
        x.read(1, 999);
        Due.makes("mark 0", x, "z = mark 0;", 3);
        Due.makes("mark 999", x, "z = mark 999;", 2);
        x.read(0, 0);
        Due.makes("mark of the least", x, "z = mark 0;", 1);
        x.lose(0);
        Due.makes("mark of the least THERE", x, "z = mark 0;", 3);
        x.read(2, 1);
        Due.fails("mark: read otherwise", x, "z = mark 0;", 0);
    }

    private static void cutIsFromBelowTo() {
        TapeStudio x = with(1, 2, 3, 4);
        Due.makes("cut from 0 to the length", x, "a = take 0; z = cut a from 0 to 4;", 1, 2, 3, 4);
        Due.makes("cut of the last", x, "a = take 0; z = cut a from 3 to 4;", 4);
        Due.makes("cut of the first", x, "a = take 0; z = cut a from 0 to 1;", 1);
        Due.fails("cut: to above its length", x, "a = take 0; z = cut a from 3 to 5;", 1);
        Due.fails("cut: from is to", x, "a = take 0; z = cut a from 4 to 4;", 1);
        Due.fails("cut: from is to, 0", x, "a = take 0; z = cut a from 0 to 0;", 1);
        Due.fails("cut: from above to", x, "a = take 0; z = cut a from 2 to 1;", 1);
        TapeStudio y = with(1, 2);
        longAs("cut up to 1500", y, "a = take 0; b = loop a for 1500; z = cut b from 0 to 1500;", 1500);
        longAs("cut of the 1500th", y, "a = take 0; b = loop a for 1500; z = cut b from 1499 to 1500;", 1);
        Due.fails("cut above 1499", y, "a = take 0; b = loop a for 1499; z = cut b from 0 to 1500;", 2);
    }

    private static void speedUpTo1500() {
        TapeStudio x = with(1, 2);
        // 1499 by 1 by 1; 749 * 2 + 1; 750 * 2 + 1; 1285 * 7 / 6 is 1499; 1286 * 7 / 6 is 1500
        longAs("speed: 1500", x, "a = take 0; b = loop a for 1500; z = speed b 1/1;", 1500);
        longAs("speed: 1499", x, "a = take 0; b = loop a for 750; z = speed b 1/2;", 1499);
        Due.fails("speed: 1501", x, "a = take 0; b = loop a for 751; z = speed b 1/2;", 2);
        longAs("speed 6/7: 1500", x, "a = take 0; b = loop a for 1286; z = speed b 6/7;", 1500);
        Due.fails("speed 6/7: 1501", x, "a = take 0; b = loop a for 1287; z = speed b 6/7;", 2);
        longAs("speed 8/1 of two", x, "a = take 0; z = speed a 8/1;", 1);
    }

    private static void anglesNotAboveALength() {
        TapeStudio x = with(8, 8, 8);
        Due.strip(x, 4, 4, 4, 4);
        Due.makes("splice: angle as long as the one", x, "a = take 0; b = take 1; z = splice a b angle 3;", 7, 6, 5, 4);
        Due.makes("splice: angle as long as the other", x, "a = take 0; b = take 1; z = splice b a angle 3;", 4, 5, 6, 7);
        Due.fails("splice: angle above the one's length", x, "a = take 0; b = take 1; z = splice a b angle 4;", 2);
        Due.fails("splice: angle above the other's length", x, "a = take 0; b = take 1; z = splice b a angle 4;", 2);
        Due.makes("splice: with itself", x, "a = take 0; z = splice a a angle 3;", 8, 8, 8);
        Due.ramp(x, 41, 1);
        longAs("splice: angle 40", x, "a = take 2; z = splice a a angle 40;", 42);
    }

    private static void spliceUpTo1500() {
        TapeStudio x = with(1, 2);
        longAs("splice: 1500", x, "a = take 0; b = loop a for 750; z = splice b b angle 0;", 1500);
        longAs("splice: 1500", x, "a = take 0; b = loop a for 1500; z = splice b a angle 2;", 1500);
        Due.fails("splice: 1501", x, "a = take 0; b = loop a for 1500; z = splice b a angle 1;", 2);
        Due.fails("splice: 1501", x, "a = take 0; b = loop a for 751; c = loop a for 750; z = splice b c angle 0;", 3);
    }

    private static void loopTillThereAreSoMany() {
        TapeStudio x = with(7, 8, 9);
        Due.strip(x, 5);
        Due.fails("loop for 0", x, "a = take 0; z = loop a for 0;", 1);
        Due.makes("loop for 1", x, "a = take 0; z = loop a for 1;", 7);
        Due.makes("loop for its length", x, "a = take 0; z = loop a for 3;", 7, 8, 9);
        Due.makes("loop for one more", x, "a = take 0; z = loop a for 4;", 7, 8, 9, 7);
        Due.makes("loop of one sample", x, "a = take 1; z = loop a for 3;", 5, 5, 5);
        longAs("loop for 1500", x, "a = take 1; z = loop a for 1500;", 1500);
        Due.is("loop for 1500: the last", x.out(1499), 5);
    }

    private static void echoFromTheAfterThOn() {
        TapeStudio x = with(100, 10, 20, 30);
        Due.makes("echo after its length less 1", x, "a = take 0; z = echo a after 3 by 128;", 100, 10, 20, 80);
        Due.makes("echo after its length", x, "a = take 0; z = echo a after 4 by 255;", 100, 10, 20, 30);
        Due.makes("echo after 500", x, "a = take 0; z = echo a after 500 by 255;", 100, 10, 20, 30);
        Due.makes("echo by 0", x, "a = take 0; z = echo a after 1 by 0;", 100, 10, 20, 30);
        // 10 + 100*255/256, 20 + 109*255/256, 30 + 128*255/256: each as it is then
        Due.makes("echo after 1 by 255", x, "a = take 0; z = echo a after 1 by 255;", 100, 109, 128, 157);
        TapeStudio y = with(-100, -1, 1);
        Due.makes("echo toward 0", y, "a = take 0; z = echo a after 1 by 255;", -100, -100, -98);
    }

    private static void echoGoesNotBeyond() {
        TapeStudio x = with(32767, 32767, -32768, -32768, -32768);
        // 32767, -32768 + 32639, -32768 - 128, ..
        Due.makes("echo at the nearer end", x, "a = take 0; z = echo a after 1 by 255;", 32767, 32767, -129, -32768, -32768);
    }

    private static void copyByAMachineThatIs() {
        TapeStudio x = with(1, 2);
        Due.fails("copy: no MACHINE came", x, "a = take 0; z = copy a on 0;", 1);
        for (int i = 0; i < 3; i++) x.machine(50128, 0, 0);
        Due.makes("copy: the last that came", x, "a = take 0; z = copy a on 2;", 2, 4);
        Due.fails("copy: one behind", x, "a = take 0; z = copy a on 3;", 1);
        x.machine(50064, 0, 0);
        Due.makes("copy: the fourth", x, "a = take 0; z = copy a on 3;", 1, 2);
    }

    private static void copyUpTo1500() {
        TapeStudio x = with(1, 2);
        x.machine(47064, 0, 0);
        x.machine(64, 0, 0);
        // 1495 * 1000 / 997 is 1499, 1496 * 1000 / 997 is 1500; 1424 * 1000 / 950 is 1498, 1425 * 1000 / 950 is 1500
        longAs("copy: 1500", x, "a = take 0; b = loop a for 1496; z = copy b on 0;", 1500);
        Due.fails("copy: 1501", x, "a = take 0; b = loop a for 1497; z = copy b on 0;", 2);
        longAs("copy: 1499", x, "a = take 0; b = loop a for 1425; z = copy b on 1;", 1499);
        Due.fails("copy: 1501", x, "a = take 0; b = loop a for 1426; z = copy b on 1;", 2);
        longAs("copy of one", x, "a = take 0; b = loop a for 1; z = copy b on 1;", 1);
    }

    private static void filterHas0AtBothEnds() {
        TapeStudio x = with(64, 128, -64);
        Due.strip(x, 64);
        Due.strip(x, 32767, 32767, 32767);
        Due.strip(x, -32768, -32768);
        Due.makes("filter: 0 ahead of the first one", x, "a = take 0; z = filter a 1 0 0;", 0, 1, 2);
        Due.makes("filter: 0 behind the last one", x, "a = take 0; z = filter a 0 0 1;", 2, -1, 0);
        Due.makes("filter of one sample", x, "a = take 1; z = filter a 128 3 128;", 3);
        Due.makes("filter by 0", x, "a = take 0; z = filter a 0 0 0;", 0, 0, 0);
        Due.makes("filter by 128", x, "a = take 2; z = filter a 128 128 128;", 32767, 32767, 32767);
        Due.makes("filter by 128", x, "a = take 3; z = filter a 128 128 128;", -32768, -32768);
        Due.makes("filter by 64", x, "a = take 2; z = filter a 0 64 0;", 32767, 32767, 32767);
    }

    private static void fadesNotAboveTheLength() {
        TapeStudio x = with(60, 60, 60);
        Due.strip(x, 60);
        Due.makes("fade in 0 out 0", x, "a = take 0; z = fade a in 0 out 0;", 60, 60, 60);
        Due.makes("fade in 1 out 0", x, "a = take 0; z = fade a in 1 out 0;", 0, 60, 60);
        Due.makes("fade in 0 out 1", x, "a = take 0; z = fade a in 0 out 1;", 60, 60, 0);
        Due.makes("fade in its length", x, "a = take 0; z = fade a in 3 out 0;", 0, 20, 40);
        Due.makes("fade out its length", x, "a = take 0; z = fade a in 0 out 3;", 40, 20, 0);
        Due.makes("fade in ahead of out", x, "a = take 0; z = fade a in 3 out 3;", 0, 6, 0);
        Due.fails("fade in above it", x, "a = take 0; z = fade a in 4 out 0;", 1);
        Due.fails("fade out above it", x, "a = take 0; z = fade a in 0 out 4;", 1);
        TapeStudio y = with(60);
        Due.makes("fade of one sample", y, "a = take 0; z = fade a in 1 out 1;", 0);
        longAs("fade 1500", y, "a = take 0; b = loop a for 1500; z = fade b in 1500 out 1500;", 1500);
        Due.fails("fade above 1499", y, "a = take 0; b = loop a for 1499; z = fade b in 1500 out 0;", 2);
        Due.fails("fade above 1499", y, "a = take 0; b = loop a for 1499; z = fade b in 0 out 1500;", 2);
    }

    private static void gainGoesNotBeyond() {
        TapeStudio x = with(16383, 16384, -16384, -16385, 1, -1);
        Due.makes("gain 128", x, "a = take 0; z = gain a 128;", 32766, 32767, -32768, -32768, 2, -2);
        Due.makes("gain 64", x, "a = take 0; z = gain a 64;", 16383, 16384, -16384, -16385, 1, -1);
        Due.makes("gain 63", x, "a = take 0; z = gain a 63;", 16127, 16128, -16128, -16128, 0, 0);
        Due.makes("gain 0", x, "a = take 0; z = gain a 0;", 0, 0, 0, 0, 0, 0);
    }

    private static void aPutEndsAt3000AtMost() {
        TapeStudio x = with(3, 4);
        String whole = "a = take 0; b = loop a for 1500; ";
        longAs("a PIECE of 3000", x, whole + "z = take 0; put b at 1500 on 0;", 3000);
        Due.is("28: the last", x.out(2999), 4);
        Due.is("28: behind it", x.out(3000), Due.NO_SAMPLE);
        longAs("a put at 1500 of fewer", x, whole + "z = take 0; put z at 1500 on 0;", 1502);
        Due.fails("in again up to 3001", x, whole + "again 2 by 1 { put b at 1500 on 0; }", 2);
        longAs("in again up to 3000", x, whole + "z = take 0; again 2 by 1 { put b at 1499 on 0; }", 3000);
        Due.fails("the second put of the lot", x, whole + "again 2 by 2 { put b at 1498 on 0; put b at 1499 on 0; }", 3);
        Due.fails("again 9 by 999", x, whole + "again 9 by 999 { put a at 0 on 0; }", 2);
        Due.fails("far beyond", x, whole + "again 9 by 999 { put b at 1500 on 15; }", 2);
    }

    private static void inAgainTheLastLayingCounts() {
        TapeStudio x = with(3, 4);
        longAs("again 1", x, "z = take 0; again 1 by 999 { put z at 5 on 0; }", 7);
        longAs("again 9 by 0", x, "z = take 0; again 9 by 0 { put z at 5 on 0; }", 7);
        Due.is("again 9 by 0: all nine", x.out(5), 27);
        longAs("again 9 by 374: the last ends at 2994", x, "z = take 0; again 9 by 374 { put z at 0 on 0; }", 2994);
        Due.is("again: the last", x.out(2993), 4);
        longAs("again 4 by 999 up to 2999", x, "z = take 0; again 4 by 999 { put z at 0 on 0; }", 2999);
        longAs("again 4 by 999 up to 3000", x, "z = take 0; again 4 by 999 { put z at 1 on 0; }", 3000);
        Due.fails("again 4 by 999 up to 3001", x, "z = take 0; again 4 by 999 { put z at 2 on 0; }", 1);
    }

    private static void aPieceIs0LongWithoutPuts() {
        TapeStudio x = with(3, 4);
        Due.is("0 without: made", x.make(Due.score(x, "a = take 0;"), 0), 0);
        Due.is("43: its length", x.count(10), 0);
        Due.is("43: its SCORE", x.count(9), 0);
        Due.is("28: no sample", x.out(0), Due.NO_SAMPLE);
        Due.is("29: no WHY", x.why(0, 0), NONE);
        Due.is("30: no LEAD", x.lead(0, 0, 0), NONE);
        Due.is("31: no QUARREL", x.quarrel(0), NONE);
        Due.is("32: it is not OPEN", x.open(0), 0);
        longAs("a gap is silent", x, "z = take 0; put z at 4 on 0;", 6);
        Due.is("a gap is silent", x.out(3), 0);
        Due.is("a gap comes by none", x.why(3, 0), NONE);
    }

    private static void eachSampleIsTheSum() {
        TapeStudio x = with(20000, -20000, 16383, -16384);
        Due.makes("sums at the nearer end", x, "a = take 0; z = gain a 64; put a at 0 on 1;", 32767, -32768, 32766, -32768);
        Due.makes("a sum of three", x, "a = take 0; z = gain a 64; b = turn a; put a at 0 on 0; put b at 0 on 1;",
                20000 + 20000 - 16384, -20000 - 20000 + 16383, 16383 + 16383 - 20000, -16384 - 16384 + 20000);
    }

    private static void playingWearsNothing() {
        TapeStudio x = with(1, 2, 3);
        x.machine(50064, 100, 200);
        for (int i = 0; i < 2; i++) Due.makes("plays", x, "a = take 0; b = copy a on 0; z = speed b 1/1;", 1, 2, 3);
        Due.facts("playing by a SCORE wears nothing", x, 0, 0, 0, 3, 0, 0, 0);
        Due.is("and nothing comes of it", x.count(1), 1);
        for (int i = 0; i < 5; i++) x.copy(0, 0);
        Due.makes("a WORN one is played by a SCORE", x, "a = take 0; z = copy a on 0;", 1, 2, 3);
    }

    private static void theFirstThatFails() {
        TapeStudio x = with(1, 2, 3);
        Due.fails("27: the first order", x, "a = take 7; b = take 8; c = cut b from 2 to 1;", 0);
        Due.fails("27: the last order", x, "a = take 0; put a at 0 on 0; b = take 8;", 2);
        Due.fails("27: ahead of a put that FAILS", x, "a = take 0; b = cut a from 1 to 1; again 9 by 999 { put a at 0 on 0; }",
                1);
        Due.fails("27: a put ahead", x, "a = take 0; again 9 by 999 { put a at 0 on 0; } b = cut a from 1 to 1;", 1);
        int good = Due.score(x, "a = take 0;");
        Due.is("27: NONE if none", x.fails(good, 0), NONE);
        Due.is("43: that makes nothing", x.count(9), NONE);
        StringBuilder text = new StringBuilder("a=take 0;");
        for (int i = 0; i < 38; i++) text.append("put a at 0 on 0;");
        Due.fails("27: the 40th", x, text + "b=take 9;", 39);
    }

    private static void daysOfMaking() {
        Refused.Calls ahead = x -> {
            Due.strip(x, 1, 2);
            Due.score(x, "a = take 0; put a at 0 on 0;");
            Due.score(x, "a = take 0; b = turn a; put b at 3 on 0;");
            x.go(5);
            x.make(1, 5);
        };
        for (int day : new int[] {-1, 6, 401, FAR, FAR_BELOW}) {
            Refused.none("26: no such DAY, " + day, ahead, x -> x.make(0, day));
            Refused.none("27: no such DAY, " + day, ahead, x -> x.fails(0, day));
        }
        TapeStudio x = new TapeStudio();
        ahead.on(x);
        Due.is("26: DAY 0", x.make(0, 0), 2);
        Due.is("26: DAY NOW", x.make(1, 5), 5);
        Due.is("27: DAY NOW", x.fails(1, 5), NONE);
    }

    private static void noSuchScore() {
        Refused.Calls ahead = x -> {
            Due.strip(x, 1, 2);
            Due.score(x, "a = take 0; b = turn a; put b at 0 on 0;");
            Due.score(x, "a = take 7;");
            x.make(0, 0);
        };
        for (int score : new int[] {-1, 2, 8, FAR, FAR_BELOW}) {
            Refused.none("26: no such SCORE, " + score, ahead, x -> x.make(score, 0));
            Refused.none("27: no such SCORE, " + score, ahead, x -> x.fails(score, 0));
            Refused.none("32: no such SCORE, " + score, ahead, x -> x.open(score));
            Refused.none("33: no such SCORE, " + score, ahead, x -> x.turns(score));
            Refused.none("34: no such SCORE, " + score, ahead, x -> x.turnOf(score, 1));
            Refused.none("35: no such SCORE, " + score, ahead, x -> x.deep(score));
        }
        Refused.none("26: it FAILS", ahead, x -> x.make(1, 0));
        Refused.is("27: it FAILS", ahead, x -> x.fails(1, 0), 0);
        Refused.none("26: of none", x -> Due.strip(x, 1), x -> x.make(0, 0));
    }

    private static void outIsInThePiece() {
        TapeStudio x = with(1, 2, 3);
        Due.score(x, "a = take 0; put a at 1 on 0;");
        Due.is("28: nothing was MADE", x.out(0), Due.NO_SAMPLE);
        x.make(0, 0);
        for (int t : new int[] {-1, 4, FAR, FAR_BELOW}) Due.is("28: none such, " + t, x.out(t), Due.NO_SAMPLE);
        Due.is("28: the first", x.out(0), 0);
        Due.is("28: the last", x.out(3), 3);
        longAs("a shorter one", x, "a = take 0; z = cut a from 1 to 2;", 1);
        Due.is("28: of the one MADE last", x.out(0), 2);
        Due.is("28: what was longer is gone", x.out(1), Due.NO_SAMPLE);
    }

    private static void whyIsInThePiece() {
        TapeStudio x = with(1, 2, 3);
        Due.is("29: nothing was MADE", x.why(0, 0), NONE);
        x.make(Due.score(x, "a = take 0; put a at 1 on 0;"), 0);
        for (int t : new int[] {-1, 0, 4, FAR, FAR_BELOW}) Due.is("29: at " + t, x.why(t, 0), NONE);
        Due.is("29: the first time laid", x.why(1, 0), 0);
        Due.is("29: the last time laid", x.why(3, 1), 1);
    }

    private static void whyHasSoMany() {
        TapeStudio x = with(1);
        StringBuilder text = new StringBuilder("a=take 0;b=take 0;");
        for (int i = 0; i < 38; i++) text.append("put a at 0 on 0;");
        x.make(Due.score(x, text.toString()), 0);
        Due.is("29: the first", x.why(0, 0), 0);
        Due.is("29: but what it isn't made of", x.why(0, 1), 2);
        Due.is("29: the last", x.why(0, 38), 39);
        for (int k : new int[] {-1, 39, 40, FAR, FAR_BELOW}) Due.is("29: none such, " + k, x.why(0, k), NONE);
    }

    private static void leadIsInThePiece() {
        TapeStudio x = with(1, 2, 3);
        Due.is("30: nothing was MADE", x.lead(0, 0, 0), NONE);
        x.make(Due.score(x, "a = take 0; put a at 1 on 0; put a at 5 on 15;"), 0);
        for (int what = 0; what < 3; what++) {
            for (int t : new int[] {-1, 0, 4, 5, 8, FAR, FAR_BELOW}) {
                Due.is("30: at " + t, x.lead(t, 0, what), NONE);
            }
            for (int track : new int[] {-1, 1, 16, FAR, FAR_BELOW}) {
                Due.is("30: on track " + track, x.lead(1, track, what), NONE);
            }
            Due.is("30: the first time, " + what, x.lead(1, 0, what), new int[] {1, 0, 0}[what]);
            Due.is("30: the last time, " + what, x.lead(3, 0, what), new int[] {1, 0, 2}[what]);
            Due.is("30: track 15, " + what, x.lead(7, 15, what), new int[] {2, 0, 2}[what]);
        }
        for (int what : new int[] {-1, 3, FAR, FAR_BELOW}) Due.is("30: others, " + what, x.lead(1, 0, what), NONE);
    }

    private static void leadOfTheFirstLaying() {
        TapeStudio x = with(1, 2, 3, 4);
        x.make(Due.score(x, "a = take 0; b = take 0; put b at 2 on 0; again 3 by 3 { put a at 0 on 0; }"), 0);
        int[][] due = {{0, 3, 0}, {1, 3, 1}, {2, 2, 0}, {5, 2, 3}, {6, 3, 3}, {7, 3, 1}, {9, 3, 3}};
        for (int[] one : due) {
            Due.is("30: by ORDERS, at " + one[0], x.lead(one[0], 0, 0), one[1]);
            Due.is("30: in again the earliest one, at " + one[0], x.lead(one[0], 0, 2), one[2]);
        }
        x.make(Due.score(x, "a = take 0; again 9 by 0 { put a at 0 on 0; }"), 0);
        Due.is("30: all at once", x.lead(3, 0, 2), 3);
    }

    /** Where time t of a row leads back to: each pair is a time and the place of the STRIP. */
    private static void back(String row, int strip, int... timesAndPlaces) {
        TapeStudio x = with(10, 11, 12, 13, 14, 15);
        Due.strip(x, 20, 21, 22);
        x.machine(100064, 0, 0);
        x.machine(64, 0, 0);
        x.make(Due.score(x, "a = take 0; b = take 1; z = " + row + "; put z at 0 on 0;"), 0);
        for (int i = 0; i < timesAndPlaces.length; i += 2) {
            int t = timesAndPlaces[i];
            Due.is("30: " + row + ", STRIP at " + t, x.lead(t, 0, 1), strip);
            Due.is("30: " + row + ", place at " + t, x.lead(t, 0, 2), timesAndPlaces[i + 1]);
        }
    }

    private static void leadBackThroughOrders() {
        back("cut a from 2 to 6", 0, 0, 2, 3, 5);
        back("turn a", 0, 0, 5, 5, 0);
        back("speed a 2/1", 0, 0, 0, 2, 4);
        back("speed a 1/8", 0, 0, 0, 7, 0, 8, 1, 39, 4, 40, 5);
        back("speed a 3/2", 0, 0, 0, 1, 1, 2, 3, 3, 4);
        back("copy a on 0", 0, 0, 0, 4, 4);
        back("copy a on 1", 0, 0, 0, 5, 4);
        back("splice a b angle 0", 0, 0, 0, 5, 5);
        back("splice a b angle 0", 1, 6, 0, 8, 2);
        back("splice a b angle 2", 0, 4, 4, 5, 5);
        back("splice a b angle 2", 1, 6, 2);
        back("splice a b angle 3", 0, 5, 5);
        back("splice b a angle 3", 1, 0, 0, 2, 2);
        back("splice b a angle 3", 0, 3, 3, 5, 5);
        back("loop a for 13", 0, 0, 0, 5, 5, 6, 0, 11, 5, 12, 0);
        back("loop b for 1", 1, 0, 0);
        back("cut b from 2 to 3; y = loop z for 9; put y at 0 on 0", 1, 0, 2, 8, 2);
        back("echo a after 1 by 1", 0, 0, 0, 5, 5);
        back("filter a 1 1 1", 0, 0, 0, 5, 5);
        back("fade a in 1 out 1", 0, 0, 0, 5, 5);
        back("gain a 1", 0, 0, 0, 5, 5);
    }

    private static void quarrels(String what, String puts, int... due) {
        TapeStudio x = with(1, 2, 3);
        x.make(Due.score(x, "a = take 0; " + puts), 0);
        for (int i = 0; i < due.length; i++) Due.is("31: " + what + ", " + i, x.quarrel(i), due[i]);
        for (int i : new int[] {-1, due.length, FAR, FAR_BELOW}) Due.is("31: " + what + ", none such " + i, x.quarrel(i), NONE);
    }

    private static void quarrelsHaveATimeInCommon() {
        quarrels("side by side", "put a at 5 on 0; put a at 8 on 0; put a at 2 on 0;");
        quarrels("one time in common behind", "put a at 5 on 0; put a at 7 on 0;", 102);
        quarrels("one time in common ahead", "put a at 5 on 0; put a at 3 on 0;", 102);
        quarrels("with a later laying", "put a at 14 on 0; again 3 by 5 { put a at 2 on 0; }", 102);
        quarrels("behind the last laying", "again 2 by 5 { put a at 0 on 0; } put a at 10 on 0;");
        quarrels("ahead of the first laying", "put a at 7 on 0; again 2 by 5 { put a at 10 on 0; }");
        quarrels("between the layings", "put a at 3 on 0; again 2 by 6 { put a at 0 on 0; }");
        quarrels("in the last time of a PIECE", "again 2 by 999 { put a at 1500 on 0; } put a at 1500 on 0;", 102);
    }

    private static void quarrelsOnOneTrack() {
        quarrels("on two TRACKS", "put a at 5 on 0; put a at 5 on 1;");
        quarrels("on TRACK 15", "put a at 5 on 15; put a at 5 on 15; put a at 5 on 0;", 102);
    }

    private static void quarrelsOfOneWithItself() {
        quarrels("by its length", "again 9 by 3 { put a at 0 on 0; }");
        quarrels("by one less", "again 2 by 2 { put a at 0 on 0; }", 101);
        quarrels("by 0", "again 2 by 0 { put a at 0 on 0; }", 101);
        quarrels("once alone", "again 1 by 0 { put a at 0 on 0; }");
        quarrels("a lot", "again 2 by 1 { put a at 0 on 0; put a at 0 on 1; }", 101, 202);
    }

    private static void quarrelsEachOnce() {
        quarrels("by the first ORDER, then the other one",
                "put a at 0 on 0; again 3 by 1 { put a at 0 on 0; } put a at 2 on 0;", 102, 103, 202, 203);
        StringBuilder puts = new StringBuilder();
        for (int i = 0; i < 39; i++) puts.append("put a at 0 on 0;");
        TapeStudio x = with(1);
        x.make(Due.score(x, "a=take 0;" + puts), 0);
        Due.is("31: the first of 741", x.quarrel(0), 102);
        Due.is("31: the last of 741", x.quarrel(740), 3839);
        Due.is("31: no more", x.quarrel(741), NONE);
        Due.is("31: nothing was MADE", with(1).quarrel(0), NONE);
    }

    private static void openIfItWouldFail() {
        TapeStudio x = with(1, 2, 3);
        Due.score(x, "a = take 0; put a at 0 on 0;");
        x.make(0, 0);
        Due.is("32: it would not FAIL", x.open(0), 0);
        Refused.is("32: to ask changes nothing", y -> { Due.strip(y, 1); Due.score(y, "a = take 0;"); y.make(0, 0); y.lose(0); },
                y -> y.open(0), 1);
        x.lose(0);
        Due.is("32: it would FAIL", x.open(0), 1);
        Due.is("32: what was MADE stays", x.out(2), 3);
    }

    private static void openIfAMarkLeadsElsewhere() {
        TapeStudio x = with(1);
        Due.strip(x, 1);
        x.read(1, 4);
        Due.score(x, "a = mark 4;");
        x.make(0, 0);
        Due.is("32: it leads where it did", x.open(0), 0);
        x.read(1, 4);
        Due.is("32: read again", x.open(0), 0);
        x.read(0, 4);
        Due.is("32: it leads to another STRIP, of like samples", x.open(0), 1);
        x.read(0, 5);
        Due.is("32: and back", x.open(0), 0);
        x.read(1, 5);
        Due.is("32: to none", x.open(0), 1);
        x.read(0, 4);
        Due.is("32: to another one, with the day", x.open(0), 1);
        x.make(0, 0);
        Due.is("32: MADE last", x.open(0), 0);
    }

    private static void openNeverMade() {
        TapeStudio x = with(1);
        Due.score(x, "a = take 1;");
        Due.is("32: it never was MADE", x.open(0), NONE);
        x.make(0, 0);
        Due.is("32: nor without failing", x.open(0), NONE);
        Due.strip(x, 2);
        Due.is("32: though it would not FAIL", x.open(0), NONE);
        x.make(0, 0);
        Due.is("32: it was then", x.open(0), 0);
    }

    private static String turned(int steps) {
        StringBuilder text = new StringBuilder("a = take 0; b = mark 1; put a at 0 on 0;");
        for (int i = 0; i < steps; i++) text.append("x").append((char) ('a' + i)).append(" = turn a;");
        return text.toString();
    }

    private static void stepsAre1To9() {
        int[] due = {NONE, 1, 2, 3, 4, 5, 6, 7, 8, 9, NONE, NONE};
        for (int steps : new int[] {0, 1, 8, 9, 10, 11}) {
            TapeStudio x = new TapeStudio();
            Due.score(x, turned(steps));
            Due.is("33: STEPS 1 to 9: " + steps, x.turns(0), due[steps]);
            Due.is("34: STEPS 1 to 9: " + steps + ", the last", x.turnOf(0, 2 + steps), due[steps]);
            for (int order = 0; order < 3; order++) Due.is("34: no STEP, " + order, x.turnOf(0, order), NONE);
        }
        TapeStudio x = new TapeStudio();
        Due.score(x, "");
        Due.is("33: none at all", x.turns(0), NONE);
    }

    private static void theBenchHasOneAtMost() {
        for (String step : new String[] {"cut a from 0 to 1", "turn a", "splice a a angle 0", "loop a for 1"}) {
            TapeStudio x = new TapeStudio();
            Due.score(x, "a = take 0; b = " + step + "; c = turn a;");
            Due.is("33: at the BENCH: " + step, x.turns(0), 2);
            for (int i = 0; i < 4; i++) x.machine(50064, 0, 0);
            Due.is("33: on no MACHINE: " + step, x.turns(0), 2);
        }
    }

    private static void machinesOfTheirOwn() {
        String[] steps = {"speed a 1/1", "echo a after 1 by 1", "filter a 1 1 1", "fade a in 0 out 0", "gain a 1",
            "copy a on 0"};
        for (String step : steps) {
            TapeStudio x = new TapeStudio();
            Due.score(x, "a = take 0; b = " + step + "; c = turn a; d = gain a 3;");
            Due.is("33: without a MACHINE: " + step, x.turns(0), NONE);
            Due.is("34: without a MACHINE: " + step, x.turnOf(0, 2), NONE);
            x.machine(50064, 0, 0);
            Due.is("33: on one MACHINE: " + step, x.turns(0), 2);
            x.machine(50064, 0, 0);
            Due.is("33: on two MACHINES: " + step, x.turns(0), 1);
        }
        TapeStudio x = new TapeStudio();
        Due.score(x, "a = take 0; b = copy a on 3; c = copy a on 3;");
        for (int i = 0; i < 3; i++) x.machine(50064, 0, 0);
        Due.is("33: copy on one that isn't", x.turns(0), NONE);
        x.machine(50064, 0, 0);
        Due.is("33: copy on the one told", x.turns(0), 2);
        Due.score(x, "a = take 0; b = gain a 1; c = gain a 1; d = gain a 1; e = gain a 1; f = turn a;");
        Due.is("33: on four, and at the BENCH", x.turns(1), 1);
        Due.score(x, "a = take 0; b = gain a 1; c = gain a 1; d = gain a 1; e = gain a 1; f = gain a 1;");
        Due.is("33: five on four", x.turns(2), 2);
    }

    private static void turnOfNoStep() {
        TapeStudio x = new TapeStudio();
        Due.score(x, "a = take 0; b = turn a; c = mark 0; put b at 0 on 0;");
        for (int order : new int[] {-1, 0, 2, 3, 4, 40, FAR, FAR_BELOW}) {
            Due.is("34: no STEP, " + order, x.turnOf(0, order), NONE);
        }
        Due.is("34: from 1 on", x.turnOf(0, 1), 1);
        // both of one STEP behind it: the heap of the first ones, 1, is the least
        Due.score(x, "a = take 0; b = turn a; c = turn b; d = turn a;");
        int[] due = {NONE, 1, 2, 3};
        for (int i = 0; i < due.length; i++) Due.is("34: the least heap first, " + i, x.turnOf(1, i), due[i]);
    }

    private static void deepOfNoPut() {
        TapeStudio x = with(1);
        Due.is("35: no put", x.deep(Due.score(x, "a = take 0; b = echo a after 1 by 1;")), NONE);
        Due.is("35: no order", x.deep(Due.score(x, "")), NONE);
        Due.is("35: a put of a take", x.deep(Due.score(x, "a = take 0; put a at 0 on 0;")), 0);
        StringBuilder deepest = new StringBuilder("xa=take 0;");
        for (int i = 1; i < 39; i++) deepest.append(name(i)).append("=gain ").append(name(i - 1)).append(" 1;");
        Due.is("35: none of these is deeper", x.deep(Due.score(x, deepest + "put " + name(38) + " at 0 on 0;")), 0);
        String echoes = deepest.toString().replace("gain", "echo").replace(" 1;", " after 1 by 1;");
        Due.is("35: 38 deep", x.deep(Due.score(x, echoes + "put " + name(38) + " at 0 on 0;")), 38);
    }

    private static String name(int i) { return (i < 26 ? "x" : "y") + (char) ('a' + i % 26); }

    private static void deepOfNoneThere() {
        TapeStudio x = with(1);
        x.machine(50064, 0, 0);
        x.copy(0, 0);
        x.read(1, 5);
        Due.score(x, "a = take 1; put a at 0 on 0;");
        Due.score(x, "a = mark 5; put a at 0 on 0;");
        Due.score(x, "a = take 99; b = mark 999; put a at 0 on 0; put b at 0 on 0;");
        Due.is("35: the GENERATION of take", x.deep(0), 1);
        Due.is("35: the GENERATION of mark", x.deep(1), 1);
        Due.is("35: 0 if there is none", x.deep(2), 0);
        x.lose(1);
        Due.is("35: 0 of a LOST one", x.deep(0), 0);
        Due.is("35: 0 of a mark that leads to none", x.deep(1), 0);
    }
}
