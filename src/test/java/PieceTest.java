/** Promises 26 to 35: what is made by scores, what it comes from, and the work of it. */
public final class PieceTest {
    private static final int NONE = TapeStudio.NONE;

    public static void main(String[] args) {
        sources();
        cut();
        turnAndSpeed();
        splice();
        loopAndEcho();
        copy();
        filter();
        fadeAndGain();
        puts();
        lengths();
        makeRefused();
        knownOnDays();
        out();
        why();
        lead();
        leadOverlaps();
        quarrel();
        open();
        openOfTwo();
        turns();
        turnsWithCopies();
        turnsRefused();
        deep();
        Due.close();
    }

    private static void sources() {
        TapeStudio x = new TapeStudio();
        Due.strip(x, 1, 2, 3);
        Due.strip(x, 4, 5);
        Due.strip(x, 6);
        x.read(1, 7);
        x.read(2, 7);
        Due.makes("26: take", x, "z = take 0;", 1, 2, 3);
        Due.makes("26: mark of the least", x, "z = mark 7;", 4, 5);
        Due.fails("27: mark of none", x, "a = take 0; z = mark 8;", 1);
        Due.fails("27: take of none", x, "z = take 3;", 0);
        x.lose(1);
        Due.is("26: mark of the least there", x.make(1, 0), 1);
        Due.is("28: it", x.out(0), 6);
        x.read(2, 9);
        Due.is("26: mark read otherwise", x.make(1, 0), NONE);
        x.loop(0);
        Due.is("27: take of a used one", x.fails(0, 0), 0);
        x.read(3, 9);
        Due.makes("26: of a loop, and the least of two", x, "a = mark 9; b = take 3; z = splice a b angle 0;", 6, 1, 2, 3);
        Due.fails("27: take of a lost one", x, "z = take 1;", 0);
    }

    private static void cut() {
        TapeStudio x = new TapeStudio();
        Due.strip(x, 1, 2, 3, 4);
        Due.makes("26: cut", x, "a = take 0; z = cut a from 1 to 3;", 2, 3);
        Due.makes("26: cut of all", x, "a = take 0; z = cut a from 0 to 4;", 1, 2, 3, 4);
        Due.fails("27: cut beyond", x, "a = take 0; z = cut a from 1 to 5;", 1);
        Due.fails("27: cut of none", x, "a = take 0; z = cut a from 2 to 2;", 1);
        Due.fails("27: cut back", x, "a = take 0; z = cut a from 3 to 2;", 1);
        Due.fails("27: the first that fails", x, "a = take 0; b = cut a from 3 to 2; c = take 9; d = turn b;", 1);
        Due.fails("27: a row that is never put", x, "a = take 0; put a at 0 on 0; b = cut a from 4 to 5;", 2);
    }

    private static void turnAndSpeed() {
        TapeStudio x = new TapeStudio();
        Due.strip(x, 0, 10, -5);
        Due.makes("26: turn", x, "a = take 0; z = turn a;", -5, 10, 0);
        Due.makes("26: speed", x, "a = take 0; z = speed a 1 / 2;", 0, 5, 10, 3, -5);
        Due.makes("26: speed 3 / 4", x, "a = take 0; z = speed a 3 / 4;", 0, 7, 3);
        int[] most = new int[188];
        most[187] = 9;
        Due.strip(x, most);
        int score = Due.score(x, "a = take 1; b = speed a 1 / 8; put b at 3 on 0;");
        Due.is("26: 1497 samples", x.make(score, 0), 1500);
        Due.is("28: the last", x.out(1499), 9);
        Due.is("28: one ahead", x.out(1498), 7);
        Due.strip(x, new int[189]);
        Due.fails("27: 1505 samples", x, "a = take 2; b = speed a 1 / 8;", 1);
        Due.fails("27: 1497 of them, turned, at 7 by 8", x, "a = take 1; b = speed a 1 / 8; c = turn b; d = speed c 7 / 8;", 3);
    }

    private static void splice() {
        TapeStudio x = new TapeStudio();
        Due.strip(x, 10, 20, 30, -41);
        Due.strip(x, 4, 3, 2);
        Due.makes("26: splice", x, "a = take 0; b = take 1; z = splice a b angle 3;", 10, 16, 16, -8);
        Due.makes("26: splice with itself", x, "a = take 1; z = splice a a angle 1;", 4, 3, 3, 3, 2);
        Due.makes("26: splice at 0", x, "a = take 1; z = splice a a angle 0;", 4, 3, 2, 4, 3, 2);
        Due.fails("27: angle above the other's length", x, "a = take 0; b = take 1; c = splice a b angle 4;", 2);
        Due.fails("27: angle above the one's length", x, "a = take 0; b = take 1; c = splice b a angle 4;", 2);
        Due.ramp(x, 40, 1);
        int score = Due.score(x, "a = take 2; b = splice a a angle 40; put b at 0 on 0;");
        Due.is("26: angle 40", x.make(score, 0), 40);
        Due.is("28: angle 40", x.out(39), (39 * 1 + 39 * 40) / 41);
        Due.fails("27: 1501 samples", x, "a = take 1; b = loop a for 1499; c = splice b a angle 1;", 2);
        score = Due.score(x, "a = take 1; b = loop a for 1499; c = splice b a angle 2; put c at 1500 on 3;");
        Due.is("26: 1500 samples", x.make(score, 0), 3000);
    }

    private static void loopAndEcho() {
        TapeStudio x = new TapeStudio();
        Due.strip(x, 1, 2, 3);
        Due.strip(x, 100, 0, -100, 7, 7, 30000);
        rowsOfOne();
        Due.makes("26: loop", x, "a = take 0; z = loop a for 7;", 1, 2, 3, 1, 2, 3, 1);
        Due.makes("26: a shorter loop", x, "a = take 0; z = loop a for 2;", 1, 2);
        Due.fails("27: a loop for none", x, "a = take 0; z = loop a for 0;", 1);
        // 0, -100 + 50, 7 + 0, 7 - 25, 30000 + 3
        Due.makes("26: echo", x, "a = take 1; z = echo a after 2 by 128;", 100, 0, -50, 7, -18, 30003);
        // each has what is ahead of it already: 100, 99, -100 + 98, 7 - 1, 7 + 5, 30000 + 11
        Due.makes("26: echo of echoes", x, "a = take 1; z = echo a after 1 by 255;", 100, 99, -2, 6, 12, 30011);
        Due.makes("26: echo behind the end", x, "a = take 0; z = echo a after 3 by 255;", 1, 2, 3);
        Due.makes("26: echo of the first", x, "a = take 0; z = echo a after 2 by 255;", 1, 2, 3);
        TapeStudio y = new TapeStudio();
        Due.strip(y, 32767, 3000, -32768, -3000);
        Due.makes("26: no echo goes beyond", y, "a = take 0; z = echo a after 1 by 255;", 32767, 32767, -129, -3128);
        Due.makes("26: nor below", y, "a = take 0; b = turn a; z = echo b after 1 by 255;", -3000, -32768, -29640, 3243);
    }

    private static void rowsOfOne() {
        TapeStudio x = new TapeStudio();
        Due.strip(x, 70, 80);
        Due.strip(x, 90);
        x.machine(100064, 0, 0);
        Due.makes("26: loop for 1", x, "a = take 0; z = loop a for 1;", 70);
        Due.makes("26: speed of two", x, "a = take 0; z = speed a 2 / 1;", 70);
        Due.makes("26: copy of two", x, "a = take 0; z = copy a on 0;", 70);
        Due.makes("26: splice of one with itself", x, "a = take 1; z = splice a a angle 1;", 90);
        Due.makes("26: one with its echo", x, "a = take 1; b = turn a; z = echo b after 1 by 9;", 90);
        Due.makes("26: one, filtered and faded", x, "a = take 1; b = filter a 9 64 9; z = fade b in 0 out 0;", 90);
        Due.makes("26: one, faded in", x, "a = take 1; z = fade a in 1 out 0;", 0);
    }

    private static void copy() {
        TapeStudio x = new TapeStudio();
        Due.strip(x, -7, 0, -5, 300, -301);
        Due.fails("27: no machine", x, "a = take 0; z = copy a on 0;", 1);
        x.machine(60033, 9, 200);
        Due.makes("26: copy", x, "a = take 0; z = copy a on 0;", -3, 0, 0, 145);
        Due.is("26: nothing is worn", x.told(0, 5), 0);
        Due.is("26: nothing came", x.count(1), 1);
        Due.fails("27: no such machine", x, "a = take 0; z = copy a on 1;", 1);
        x.machine(128, 0, 0);
        Due.fails("27: 1578 samples", x, "a = take 0; b = loop a for 1500; c = copy b on 1;", 2);
        int score = Due.score(x, "a = take 0; b = loop a for 1425; c = copy b on 1; put c at 0 on 0;");
        Due.is("26: 1424 * 1000 / 950 + 1", x.make(score, 0), 1499);
    }

    private static void filter() {
        TapeStudio x = new TapeStudio();
        Due.strip(x, 10, -20, 30, 31000);
        // the first: (10*64 - 20*128)/64; then (10*32 - 20*64 + 30*128)/64, (-20*32 + 30*64 + 31000*128)/64, (30*32 + 31000*64)/64
        Due.makes("26: filter", x, "a = take 0; z = filter a 32 64 128;", -30, 45, 32767, 31015);
        Due.makes("26: filter ahead", x, "a = take 0; z = filter a 64 0 0;", 0, 10, -20, 30);
        Due.makes("26: filter next", x, "a = take 0; z = filter a 0 0 64;", -20, 30, 31000, 0);
        Due.makes("26: filter toward 0", x, "a = take 0; z = filter a 0 3 0;", 0, 0, 1, 1453);
    }

    private static void fadeAndGain() {
        TapeStudio x = new TapeStudio();
        Due.strip(x, 100, 100, -100, 100, 100);
        Due.makes("26: fade in", x, "a = take 0; z = fade a in 3 out 0;", 0, 33, -66, 100, 100);
        Due.makes("26: fade out", x, "a = take 0; z = fade a in 0 out 3;", 100, 100, -66, 33, 0);
        // in first: 0 20 -40 60 80; then by 4/5, 3/5 ..
        Due.makes("26: both", x, "a = take 0; z = fade a in 5 out 5;", 0, 12, -16, 12, 0);
        Due.makes("26: neither", x, "a = take 0; z = fade a in 0 out 0;", 100, 100, -100, 100, 100);
        Due.fails("27: in above the length", x, "a = take 0; z = fade a in 6 out 0;", 1);
        Due.fails("27: out above the length", x, "a = take 0; z = fade a in 0 out 6;", 1);
        Due.makes("26: gain", x, "a = take 0; z = gain a 33;", 51, 51, -51, 51, 51);
        Due.makes("26: gain 0", x, "a = take 0; z = gain a 0;", 0, 0, 0, 0, 0);
        TapeStudio y = new TapeStudio();
        Due.strip(y, 20000, -20000, 1, -1);
        Due.makes("26: gain 128", y, "a = take 0; z = gain a 128;", 32767, -32768, 2, -2);
        Due.strip(y, 7, -9, 5);
        // 7 * 0 / 2, -9 * 1 / 2 = -4, then -4 * 1 / 2 = -2, 5 * 0 / 2
        Due.makes("26: fade in ahead of out", y, "a = take 1; z = fade a in 2 out 2;", 0, -2, 0);
    }

    private static void puts() {
        TapeStudio x = new TapeStudio();
        Due.strip(x, 1, 2, 3);
        Due.strip(x, 100);
        Due.strip(x, 30000, -30000);
        int score = Due.score(x, "a = take 0; b = take 1; put a at 1 on 0; put b at 2 on 5; put b at 6 on 5;");
        Due.is("26: puts", x.make(score, 0), 7);
        Due.piece("26: puts", x, 0, 1, 102, 3, 0, 0, 100);
        score = Due.score(x, "a = take 0; b = take 1; again 3 by 2 { put a at 0 on 0; put b at 4 on 0; }");
        Due.is("26: again", x.make(score, 0), 9);
        Due.piece("26: again", x, 1, 2, 4, 2, 104, 2, 103, 0, 100);
        score = Due.score(x, "a = take 2; again 3 by 0 { put a at 0 on 0; } b = turn a; put b at 0 on 1; put b at 0 on 2;");
        Due.is("26: sums", x.make(score, 0), 2);
        // 3 * 30000 - 2 * 30000: the sum is of all, and only the sum is brought to the nearer end
        Due.piece("26: sums", x, 30000, -30000);
        score = Due.score(x, "a = take 2; again 2 by 0 { put a at 0 on 0; }");
        x.make(score, 0);
        Due.piece("26: sums beyond", x, 32767, -32768);
        score = Due.score(x, "a = take 0;");
        Due.is("26: without a put", x.make(score, 0), 0);
        Due.piece("26: without a put", x);
    }

    private static void lengths() {
        TapeStudio x = new TapeStudio();
        Due.strip(x, 7, 8);
        int score = Due.score(x, "a = take 0; b = loop a for 1500; put b at 1500 on 0; put a at 9 on 0;");
        Due.is("26: 3000 long", x.make(score, 0), 3000);
        Due.is("28: the last", x.out(2999), 8);
        Due.fails("27: beyond 3000", x, "a = take 0; put a at 0 on 0; again 9 by 187 { put a at 1500 on 0; put a at 1499 on 0; }"
                + " again 4 by 500 { put a at 1499 on 0; }", 4);
        score = Due.score(x, "a = take 0; again 4 by 500 { put a at 1498 on 0; }");
        Due.is("26: again up to 3000", x.make(score, 0), 3000);
        TapeStudio y = new TapeStudio();
        Due.strip(y, 7, 8);
        Due.is("27: again beyond by one", y.fails(Due.score(y, "a = take 0; again 4 by 500 { put a at 1499 on 0; }"), 0), 1);
        Due.is("27: a put beyond by one", y.fails(Due.score(y, "a = take 0; b = loop a for 1500; c = turn b; d = splice a a"
                + " angle 0; e = loop d for 1500; put e at 1500 on 0; put e at 1500 on 1; again 2 by 1 { put e at 1500 on 2;"
                + " }"), 0), 7);
    }

    private static void makeRefused() {
        TapeStudio x = new TapeStudio();
        Due.is("26: no such score", x.make(0, 0), NONE);
        Due.is("27: no such score", x.fails(0, 0), NONE);
        Due.strip(x, 3);
        int good = Due.score(x, "a = take 0; put a at 0 on 0;");
        int bad = Due.score(x, "a = take 5;");
        Due.is("43: none was made", x.count(9), NONE);
        Due.is("43: it has no length", x.count(10), NONE);
        for (int day : new int[] {-1, 1, 401, Integer.MAX_VALUE, Integer.MIN_VALUE}) {
            Due.is("26: day " + day, x.make(good, day), NONE);
            Due.is("27: day " + day, x.fails(bad, day), NONE);
        }
        Due.is("26: below", x.make(-1, 0), NONE);
        Due.is("26: beyond", x.make(2, 0), NONE);
        Due.is("27: nothing is made", x.fails(good, 0), NONE);
        Due.is("43: none was made still", x.count(9), NONE);
        Due.is("26: made", x.make(good, 0), 1);
        Due.is("43: made", x.count(9), good);
        Due.is("26: the other one fails", x.make(bad, 0), NONE);
        Due.is("27: fails", x.fails(bad, 0), 0);
        Due.is("43: made without failing", x.count(9), good);
        Due.is("43: its length", x.count(10), 1);
        x.go(5);
        Due.is("26: day 5 is now", x.make(good, 5), 1);
        Due.is("26: day 6 isn't", x.make(good, 6), NONE);
        Due.is("27: day 5", x.fails(bad, 5), 0);
        Due.is("27: day 6", x.fails(bad, 6), NONE);
    }

    private static void knownOnDays() {
        TapeStudio x = new TapeStudio();
        Due.strip(x, 1);
        Due.strip(x, 2);
        x.go(2);
        x.read(1, 5);
        x.go(2);
        x.read(0, 5);
        x.read(1, 6);
        int score = Due.score(x, "z = mark 5; put z at 0 on 0;");
        Due.is("27: not read yet", x.fails(score, 1), 0);
        Due.is("26: on day 2", x.make(score, 2), 1);
        Due.is("28: on day 2", x.out(0), 2);
        Due.is("26: on day 4", x.make(score, 4), 1);
        Due.is("28: on day 4", x.out(0), 1);
        x.lose(1);
        Due.is("27: strips are as they are now", x.fails(score, 2), 0);
    }

    private static void out() {
        TapeStudio x = new TapeStudio();
        Due.strip(x, 5, 6);
        int score = Due.score(x, "a = take 0; put a at 0 on 0;");
        Due.is("28: nothing made", x.out(0), Due.NO_SAMPLE);
        x.make(score, 0);
        Due.is("28: ahead", x.out(-1), Due.NO_SAMPLE);
        Due.is("28: behind", x.out(2), Due.NO_SAMPLE);
        Due.is("28: far", x.out(Integer.MAX_VALUE), Due.NO_SAMPLE);
        x.lose(0);
        x.make(score, 0);
        x.fails(score, 0);
        x.open(score);
        Due.is("28: what was made stays", x.out(1), 6);
    }

    private static void why() {
        TapeStudio x = new TapeStudio();
        Due.strip(x, 1, 2, 3);
        Due.is("29: nothing made", x.why(0, 0), NONE);
        int score = Due.score(x, "a = take 0; b = take 0; c = turn a; d = splice c b angle 0; e = gain b 3; put d at 0 on 0;"
                + " again 2 by 10 { put e at 4 on 1; } put a at 30 on 1;");
        x.make(score, 0);
        int[][] due = {{0, 0, 1, 2, 3, 5}, {4, 0, 1, 2, 3, 4, 5, 6}, {6, 1, 4, 6}, {14, 1, 4, 6}, {16, 1, 4, 6}, {32, 0, 7},
            {7}, {13}, {17}, {-1}, {33}};
        for (int[] one : due) {
            for (int k = 1; k < one.length; k++) Due.is("29: time " + one[0] + ", " + (k - 1), x.why(one[0], k - 1), one[k]);
            Due.is("29: time " + one[0] + ", no more", x.why(one[0], one.length - 1), NONE);
            Due.is("29: time " + one[0] + ", below", x.why(one[0], -1), NONE);
        }
        Due.is("29: far", x.why(0, Integer.MAX_VALUE), NONE);
    }

    private static void leads(String what, TapeStudio x, int t, int track, int order, int strip, int place) {
        Due.is(what + ", order", x.lead(t, track, 0), order);
        Due.is(what + ", strip", x.lead(t, track, 1), strip);
        Due.is(what + ", place", x.lead(t, track, 2), place);
    }

    private static void lead() {
        TapeStudio x = new TapeStudio();
        Due.strip(x, 1, 2, 3, 4, 5, 6);
        Due.strip(x, 7, 8, 9, 10);
        x.read(1, 44);
        x.machine(100064, 0, 0);
        Due.is("30: nothing made", x.lead(0, 0, 0), NONE);
        int score = Due.score(x, "a = take 0; b = mark 44; c = cut a from 2 to 5; d = turn c; e = speed a 3 / 4; f = copy a on 0;"
                + " g = splice a b angle 2; h = loop b for 9; i = echo h after 1 by 2; j = fade i in 1 out 1;"
                + " put c at 0 on 0; put d at 0 on 1; put e at 0 on 2; put f at 0 on 3; put g at 0 on 4; put j at 0 on 5;");
        Due.is("30: made", x.make(score, 0), 9);
        leads("30: cut", x, 2, 0, 10, 0, 4);
        leads("30: turn", x, 0, 1, 11, 0, 4);
        leads("30: turn", x, 2, 1, 11, 0, 2);
        leads("30: speed", x, 3, 2, 12, 0, 2);
        leads("30: speed", x, 5, 2, 12, 0, 3);
        leads("30: copy", x, 4, 3, 13, 0, 4);
        leads("30: splice, the one", x, 5, 4, 14, 0, 5);
        leads("30: splice, the other", x, 6, 4, 14, 1, 2);
        leads("30: splice, its last", x, 7, 4, 14, 1, 3);
        leads("30: loop, echo, fade", x, 6, 5, 15, 1, 2);
        leads("30: behind the laying", x, 3, 0, NONE, NONE, NONE);
        leads("30: an empty track", x, 0, 6, NONE, NONE, NONE);
        leads("30: no track", x, 0, -1, NONE, NONE, NONE);
        leads("30: no track", x, 0, 16, NONE, NONE, NONE);
        leads("30: no time", x, -1, 0, NONE, NONE, NONE);
        leads("30: no time", x, 9, 5, NONE, NONE, NONE);
        Due.is("30: 3", x.lead(0, 0, 3), NONE);
        Due.is("30: -1", x.lead(0, 0, -1), NONE);
        x.lose(1);
        x.read(0, 44);
        leads("30: as it was made", x, 6, 5, 15, 1, 2);
    }

    private static void leadOverlaps() {
        TapeStudio x = new TapeStudio();
        Due.ramp(x, 5, 1);
        Due.strip(x, 9, 9);
        int score = Due.score(x, "a = take 0; b = take 1; again 3 by 2 { put a at 3 on 1; put b at 0 on 1; }");
        x.make(score, 0);
        leads("30: only the second", x, 2, 1, 3, 1, 0);
        leads("30: the first order", x, 4, 1, 2, 0, 1);
        leads("30: the earliest laying", x, 7, 1, 2, 0, 4);
        leads("30: the next laying", x, 8, 1, 2, 0, 3);
        leads("30: the last laying", x, 11, 1, 2, 0, 4);
        Due.ramp(x, 300, 1);
        x.machine(100064, 0, 0);
        score = Due.score(x, "a = take 2; b = copy a on 0; put b at 0 on 0;");
        x.make(score, 0);
        leads("30: copy, further on", x, 200, 0, 2, 2, 210);
        leads("30: copy, cut toward 0", x, 199, 0, 2, 2, 208);
    }

    private static void quarrels(String what, TapeStudio x, int... due) {
        for (int i = 0; i < due.length; i++) Due.is(what + " " + i, x.quarrel(i), due[i]);
        Due.is(what + ", no more", x.quarrel(due.length), NONE);
        Due.is(what + ", below", x.quarrel(-1), NONE);
        Due.is(what + ", far", x.quarrel(Integer.MAX_VALUE), NONE);
    }

    private static void quarrel() {
        TapeStudio x = new TapeStudio();
        Due.strip(x, 1, 2, 3);
        quarrels("31: nothing made", x);
        x.make(Due.score(x, "a = take 0; put a at 5 on 0; put a at 2 on 0; put a at 8 on 0; put a at 5 on 1;"), 0);
        quarrels("31: side by side", x);
        x.make(Due.score(x, "a = take 0; put a at 5 on 0; put a at 3 on 0; put a at 7 on 0; put a at 5 on 1; put a at 5 on 0;"),
                0);
        quarrels("31: one time in common", x, 102, 103, 105, 205, 305);
        x.make(Due.score(x, "a = take 0; again 3 by 3 { put a at 0 on 0; put a at 1 on 1; } again 2 by 2 { put a at 20 on 3; }"
                + " put a at 5 on 0;"), 0);
        quarrels("31: with itself", x, 104, 303);
        x.make(Due.score(x, "a = take 0; again 2 by 0 { put a at 0 on 0; } again 9 by 10 { put a at 5 on 0; put a at 11 on 0; }"),
                0);
        quarrels("31: again with again", x, 101);
        x.make(Due.score(x, "a = take 0; again 9 by 10 { put a at 0 on 0; } again 9 by 11 { put a at 5 on 0; }"), 0);
        quarrels("31: later layings", x, 102);
        x.make(Due.score(x, "a = take 9; put a at 0 on 0; put a at 0 on 0;"), 0);
        quarrels("31: of what was made without failing", x, 102);
    }

    private static void open() {
        TapeStudio x = new TapeStudio();
        Due.strip(x, 1);
        Due.strip(x, 2);
        Due.strip(x, 3);
        x.read(1, 5);
        Due.is("32: no such score", x.open(0), NONE);
        int score = Due.score(x, "a = mark 5; b = take 2; put a at 0 on 0;");
        Due.is("32: never made", x.open(score), NONE);
        Due.is("32: below", x.open(-1), NONE);
        x.make(score, 0);
        Due.is("32: just made", x.open(score), 0);
        x.read(2, 5);
        Due.is("32: a later strip with that mark", x.open(score), 0);
        x.read(0, 5);
        Due.is("32: an earlier one", x.open(score), 1);
        x.make(score, 0);
        Due.is("32: made anew", x.open(score), 0);
        x.go(3);
        x.read(0, 6);
        Due.is("32: read otherwise", x.open(score), 1);
        x.make(score, 2);
        Due.is("32: made as known ahead", x.open(score), 1);
        x.make(score, 3);
        Due.is("32: made as known now", x.open(score), 0);
        x.lose(2);
        Due.is("32: it would fail", x.open(score), 1);
        x.make(score, 3);
        Due.is("32: and it failed", x.open(score), 1);
        Due.is("43: made last without failing", x.count(9), score);
    }

    private static void openOfTwo() {
        TapeStudio x = new TapeStudio();
        Due.strip(x, 1);
        Due.strip(x, 2);
        x.read(1, 5);
        int one = Due.score(x, "a = mark 5; put a at 0 on 0;");
        int other = Due.score(x, "b = take 1; put b at 0 on 0;");
        x.make(one, 0);
        Due.is("32: the other was never made", x.open(other), NONE);
        x.make(other, 0);
        x.read(0, 5);
        Due.is("32: the one is open", x.open(one), 1);
        Due.is("32: the other isn't", x.open(other), 0);
        Due.is("32: to ask makes nothing", x.count(9), other);
        Due.is("32: nor another piece", x.out(0), 2);
    }

    private static void turnsOf(String what, TapeStudio x, int score, int... due) {
        int most = NONE;
        for (int turn : due) most = Math.max(most, turn);
        Due.is(what + ": turns", x.turns(score), most);
        for (int i = 0; i < due.length; i++) Due.is(what + ": turn of " + i, x.turnOf(score, i), due[i]);
        Due.is(what + ": turn of no order", x.turnOf(score, due.length), NONE);
        Due.is(what + ": turn of -1", x.turnOf(score, -1), NONE);
    }

    private static void turns() {
        TapeStudio x = new TapeStudio();
        int bench = Due.score(x, "a = take 0; b = turn a; c = cut a from 0 to 1; d = loop a for 3; put d at 0 on 0;");
        turnsOf("33: at the bench one at most", x, bench, NONE, 1, 2, 3, NONE);
        turnsOf("33: one step", x, Due.score(x, "a = take 0; b = turn a;"), NONE, 1);
        int chain = Due.score(x, "a = mark 0; b = gain a 1; c = splice a b angle 1; d = fade c in 0 out 0; e = turn a;");
        turnsOf("33: no machine", x, chain, NONE, NONE, NONE, NONE, NONE);
        x.machine(50064, 0, 0);
        // gain, splice, fade; turn is done where it leaves the least heaps: behind the gain and the splice
        turnsOf("33: a chain", x, chain, NONE, 1, 2, 3, 3);
        int wide = Due.score(x, "a = take 0; b = gain a 1; c = gain a 2; d = gain a 3; e = speed a 1/1; f = echo a after 1 by 1;");
        turnsOf("33: one machine", x, wide, NONE, 1, 2, 3, 4, 5);
        x.machine(50064, 0, 0);
        // three turns for five: the least heap that allows it is one step first
        turnsOf("33: two machines", x, wide, NONE, 1, 2, 2, 3, 3);
        x.machine(50064, 0, 0);
        turnsOf("33: three machines", x, wide, NONE, 1, 1, 2, 2, 2);
        x.machine(50064, 0, 0);
        turnsOf("33: four machines", x, wide, NONE, 1, 2, 2, 2, 2);
        int late = Due.score(x, "a = take 0; b = turn a; c = filter a 1 1 1; d = turn c; e = turn d;");
        // filter, turn, turn must be; the other turn is at the bench too, which is free in the first turn only
        turnsOf("33: the bench is free first", x, late, NONE, 1, 1, 2, 3);
    }

    private static void turnsWithCopies() {
        TapeStudio x = new TapeStudio();
        for (int i = 0; i < 3; i++) x.machine(50064, 0, 0);
        int same = Due.score(x, "a = take 0; b = copy a on 2; c = copy a on 2; d = copy a on 2;");
        turnsOf("33: copies on one machine", x, same, NONE, 1, 2, 3);
        int others = Due.score(x, "a = take 0; b = copy a on 0; c = copy a on 1; d = copy a on 2;");
        turnsOf("33: copies on three", x, others, NONE, 1, 1, 1);
        int mixed = Due.score(x, "a = take 0; b = copy a on 1; c = gain a 1; d = gain a 2; e = copy a on 1; f = turn a;");
        turnsOf("33: copies and others", x, mixed, NONE, 1, 2, 2, 2, 2);
        int none = Due.score(x, "a = take 0; b = copy a on 3; c = turn a;");
        turnsOf("33: no such machine", x, none, NONE, NONE, NONE);
        x.machine(50064, 0, 0);
        turnsOf("33: it came", x, none, NONE, 1, 1);
    }

    private static void turnsRefused() {
        TapeStudio x = new TapeStudio();
        Due.is("33: no such score", x.turns(0), NONE);
        Due.is("33: below", x.turns(-1), NONE);
        Due.is("34: no such score", x.turnOf(0, 0), NONE);
        int none = Due.score(x, "a = take 0; b = mark 3; put a at 0 on 0;");
        turnsOf("33: no steps", x, none, NONE, NONE, NONE);
        StringBuilder text = new StringBuilder("a = take 0;");
        for (int i = 0; i < 9; i++) text.append("b").append((char) ('a' + i)).append(" = turn a;");
        turnsOf("33: nine steps", x, Due.score(x, text.toString()), NONE, 1, 2, 3, 4, 5, 6, 7, 8, 9);
        text.append("put a at 0 on 0;");
        turnsOf("33: a put is no step", x, Due.score(x, text.toString()), NONE, 1, 2, 3, 4, 5, 6, 7, 8, 9, NONE);
        text.append("c = turn a;");
        turnsOf("33: ten steps", x, Due.score(x, text.toString()), NONE, NONE);
    }

    private static void deep() {
        TapeStudio x = new TapeStudio();
        x.machine(50064, 0, 0);
        Due.strip(x, 1, 2);
        x.copy(0, 0);
        x.copy(1, 0);
        x.read(1, 9);
        Due.is("35: no such score", x.deep(0), NONE);
        Due.is("35: below", x.deep(-1), NONE);
        Due.is("35: no put", x.deep(Due.score(x, "a = take 2; b = gain a 1;")), NONE);
        Due.is("35: a strip's generation", x.deep(Due.score(x, "a = take 2; put a at 0 on 0;")), 2);
        int mark = Due.score(x, "a = mark 9; b = speed a 1/2; c = turn b; d = copy c on 3; e = splice a d angle 0; f = gain e 1;"
                + " g = fade f in 1 out 1; h = cut g from 9 to 1; i = loop h for 2; put i at 0 on 0;");
        Due.is("35: speed and copy", x.deep(mark), 3);
        int two = Due.score(x, "a = take 0; b = echo a after 1 by 2; c = filter b 1 1 1; put a at 0 on 0; put c at 0 on 0;"
                + " put b at 0 on 0;");
        Due.is("35: the greatest of all puts", x.deep(two), 2);
        Due.is("35: what isn't put doesn't count", x.deep(Due.score(x, "a = take 0; b = take 2; put a at 0 on 0;")), 0);
        Due.is("35: the one of a splice", x.deep(Due.score(x, "a = take 0; b = take 2; c = splice b a angle 0; d = splice a b"
                + " angle 1; put c at 0 on 0;")), 2);
        Due.is("35: of none there", x.deep(Due.score(x, "a = take 77; b = echo a after 1 by 1; put b at 0 on 0;")), 1);
        x.read(2, 9);
        Due.is("35: the least strip with the mark", x.deep(mark), 3);
        x.lose(1);
        Due.is("35: as known now", x.deep(mark), 4);
        x.lose(2);
        Due.is("35: no strip with it", x.deep(mark), 2);
        x.read(0, 9);
        Due.is("35: another one", x.deep(mark), 2);
    }
}
