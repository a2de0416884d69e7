/** Promises 1 to 21: the hand, strips, machines, nails, marks and days. */
public final class StripsTest {
    private static final int NONE = TapeStudio.NONE;

    public static void main(String[] args) {
        newObject();
        hand();
        drop();
        strip();
        sliver();
        cut();
        turn();
        loop();
        seam();
        splice();
        spliceRefused();
        machine();
        copy();
        copyRefused();
        speed();
        lose();
        hang();
        readAndMarked();
        go();
        sampleAndTold();
        limitOfStrips();
        theHundredth();
        limitOfSamples();
        Due.close();
    }

    private static void newObject() {
        TapeStudio x = new TapeStudio();
        int[] due = {0, 0, 0, 0, 0, 0, 0, 0, 0, NONE, NONE, NONE};
        for (int i = 0; i < due.length; i++) Due.is("1: count " + i, x.count(i), due[i]);
        Due.is("1: nail", x.nail(0), NONE);
        Due.is("1: told", x.told(0, 0), NONE);
        Due.is("1: out", x.out(0), Due.NO_SAMPLE);
        Due.is("1: fault", x.fault(), NONE);
        Due.is("1: go 0", x.go(0), 0);
        Due.is("1: NONE", TapeStudio.NONE, -1);
    }

    private static void hand() {
        TapeStudio x = new TapeStudio();
        Due.is("2: ten", x.hand(0x0001FFFF, 0x7FFF8000, 0xFFFE0003, 0x80007FFF, 5), 10);
        Due.is("2: ten more", x.hand(6 << 16, 0, 0, 0, 7), 20);
        x.strip(20);
        Due.row("2: samples", x, 0, 1, -1, 32767, -32768, -2, 3, -32768, 32767, 0, 5, 6, 0, 0, 0, 0, 0, 0, 0, 0, 7);
        for (int i = 1; i <= 30; i++) Due.is("2: filling", x.hand(i, i, i, i, i), 10 * i);
        Due.is("2: too many", x.hand(1, 1, 1, 1, 1), NONE);
        Due.is("2: nothing came then", x.count(4), 300);
        x.strip(1);
        Due.is("2: one is free", x.hand(1, 1, 1, 1, 1), NONE);
        x.strip(8);
        Due.is("2: nine are free", x.hand(1, 1, 1, 1, 1), NONE);
        x.strip(1);
        Due.is("2: ten are free", x.hand(1, 1, 1, 1, 1), 300);
    }

    private static void drop() {
        TapeStudio x = new TapeStudio();
        Due.is("3: empty", x.drop(), 0);
        x.hand(1, 2, 3, 4, 5);
        Due.is("3: ten", x.drop(), 10);
        Due.is("3: empty then", x.count(4), 0);
        Due.is("3: again", x.drop(), 0);
        x.hand(9 << 16, 0, 0, 0, 0);
        x.strip(1);
        Due.is("3: what was dropped is gone", x.sample(0, 0), 9);
    }

    private static void strip() {
        TapeStudio x = new TapeStudio();
        Due.is("4: of nothing", x.strip(1), NONE);
        Due.ten(x, 1, 2, 3, 4, 5, 6, 7, 8, 9, 10);
        Due.is("4: of none", x.strip(0), NONE);
        Due.is("4: below none", x.strip(-1), NONE);
        Due.is("4: more than there are", x.strip(11), NONE);
        Due.is("4: far more", x.strip(Integer.MAX_VALUE), NONE);
        Due.is("4: first", x.strip(3), 0);
        Due.row("4: first", x, 0, 1, 2, 3);
        Due.is("4: the rest stays", x.count(4), 7);
        Due.is("4: second", x.strip(7), 1);
        Due.row("4: second", x, 1, 4, 5, 6, 7, 8, 9, 10);
        Due.facts("4: told", x, 1, 0, 0, 7, 0, 0, 0, NONE, 0, NONE, NONE, 0, NONE);
        int[] most = new int[300];
        most[299] = 7;
        Due.is("4: the longest", Due.strip(x, most), 2);
        Due.is("4: its last sample", x.sample(2, 299), 7);
    }

    private static void sliver() {
        TapeStudio x = new TapeStudio();
        Due.yes("5: 0", x.sliver(0));
        Due.yes("5: 9", x.sliver(9));
        Due.no("5: 10", x.sliver(10));
        Due.no("5: -1", x.sliver(-1));
        Due.ramp(x, 12, 1);
        Due.is("5: 9 still", x.cut(0, 2), 1);
        Due.row("5: less 9", x, 2, 11);
        x.sliver(0);
        Due.ramp(x, 4, 1);
        x.cut(3, 2);
        Due.row("5: less none", x, 5, 2, 3);
    }

    private static void cut() {
        TapeStudio x = new TapeStudio();
        Due.strip(x, 10, 20, 30, 40, 50);
        x.hang(0, 4);
        for (int at : new int[] {0, -1, 5, 6, Integer.MAX_VALUE, Integer.MIN_VALUE}) Due.is("6: at " + at, x.cut(0, at), NONE);
        Due.is("6: none such", x.cut(1, 1), NONE);
        Due.is("6: below", x.cut(-1, 1), NONE);
        x.sliver(2);
        Due.is("6: none would be left", x.cut(0, 3), NONE);
        Due.is("6: nothing came", x.count(1), 1);
        x.go(3);
        Due.is("6: one is left", x.cut(0, 2), 1);
        Due.row("6: ahead", x, 1, 10, 20);
        Due.row("6: behind", x, 2, 50);
        Due.facts("6: first piece", x, 1, 1, 0, 2, 0, 0, 0, NONE, 3, 0, NONE, 0);
        Due.facts("6: other piece", x, 2, 1, 0, 1, 0, 0, 0, NONE, 3, 0, NONE, 4);
        Due.is("6: used", x.told(0, 1), 1);
        Due.is("6: off its nail", x.told(0, 6), NONE);
        Due.is("6: nothing on the nail", x.nail(4), NONE);
        Due.is("6: a used one", x.cut(0, 2), NONE);
        Due.is("6: samples that came", x.count(3), 8);
        x.lose(1);
        Due.is("6: a lost one", x.cut(1, 1), NONE);
        x.sliver(0);
        Due.strip(x, 1, 2, 3);
        int loop = x.loop(3);
        Due.is("6: a loop is cut", x.cut(loop, 1), 5);
        Due.row("6: behind in a loop", x, 6, 2, 3);
        Due.is("6: kind of a loop's piece", x.told(5, 0), 1);
    }

    private static void turn() {
        TapeStudio x = new TapeStudio();
        Due.strip(x, 1, 2, 3);
        Due.is("7: none such", x.turn(1), NONE);
        Due.is("7: below", x.turn(-1), NONE);
        x.hang(0, 0);
        Due.is("7: turned", x.turn(0), 1);
        Due.row("7: turned", x, 1, 3, 2, 1);
        Due.facts("7: told", x, 1, 2, 0, 3, 0, 0, 0, NONE, 0, 0, NONE, 0);
        Due.is("7: used", x.told(0, 1), 1);
        Due.is("7: its nail", x.nail(0), NONE);
        Due.is("7: a used one", x.turn(0), NONE);
        Due.is("7: turned again", x.turn(1), 2);
        Due.row("7: turned again", x, 2, 1, 2, 3);
        x.lose(2);
        Due.is("7: a lost one", x.turn(2), NONE);
        Due.strip(x, 4, 5);
        int loop = x.loop(3);
        Due.is("7: a loop", x.turn(loop), NONE);
        Due.is("7: the loop stays", x.told(loop, 1), 0);
    }

    private static void loop() {
        TapeStudio x = new TapeStudio();
        Due.strip(x, 7, 8, 9);
        Due.is("8: none such", x.loop(-1), NONE);
        Due.is("8: none such", x.loop(1), NONE);
        x.hang(0, 29);
        Due.is("8: loop", x.loop(0), 1);
        Due.row("8: loop", x, 1, 7, 8, 9);
        Due.facts("8: told", x, 1, 3, 0, 3, 0, 0, 0, NONE, 0, 0, NONE, 0);
        Due.is("8: used", x.told(0, 1), 1);
        Due.is("8: its nail", x.nail(29), NONE);
        Due.is("8: a used one", x.loop(0), NONE);
        Due.is("8: a loop", x.loop(1), NONE);
    }

    private static void seam() {
        TapeStudio x = new TapeStudio();
        Due.strip(x, -32768, 5, 32767);
        Due.is("9: no loop", x.seam(0), NONE);
        x.loop(0);
        Due.is("9: the widest", x.seam(1), 65535);
        Due.is("9: what it was made of", x.seam(0), NONE);
        Due.strip(x, 9);
        x.loop(2);
        Due.is("9: one sample", x.seam(3), 0);
        Due.strip(x, 9, 2);
        x.loop(4);
        Due.is("9: from above", x.seam(5), 7);
        x.lose(5);
        Due.is("9: a lost loop has one still", x.seam(5), 7);
        Due.is("9: none such", x.seam(6), NONE);
        Due.is("9: below", x.seam(-1), NONE);
    }

    private static void splice() {
        TapeStudio x = new TapeStudio();
        Due.strip(x, 10, 20, 30, -41);
        Due.strip(x, 4, 3, 2);
        x.hang(0, 1);
        x.hang(1, 2);
        x.go(9);
        Due.is("10: joined", x.splice(0, 1, 3), 2);
        // (20*3+4*1)/4=16, (30*2+3*2)/4=16.5, (-41*1+2*3)/4=-8.75
        Due.row("10: joined", x, 2, 10, 16, 16, -8);
        Due.facts("10: told", x, 2, 4, 0, 4, 0, 0, 0, NONE, 9, 0, 1, 0);
        Due.is("10: one is used", x.told(0, 1), 1);
        Due.is("10: the other too", x.told(1, 1), 1);
        Due.is("10: one's nail", x.nail(1), NONE);
        Due.is("10: the other's", x.nail(2), NONE);
        Due.strip(x, 5, 6);
        Due.is("10: angle 0", x.splice(3, 2, 0), 4);
        Due.row("10: angle 0", x, 4, 5, 6, 10, 16, 16, -8);
        olderOfBoth();
        int[] ones = new int[150];
        java.util.Arrays.fill(ones, 1);
        TapeStudio y = new TapeStudio();
        Due.strip(y, ones);
        Due.strip(y, new int[170]);
        Due.is("10: 301 samples", y.splice(0, 1, 19), NONE);
        Due.is("10: 300 samples", y.splice(0, 1, 20), 2);
        Due.is("10: 300 samples", y.told(2, 2), 300);
    }

    private static void olderOfBoth() {
        TapeStudio x = new TapeStudio();
        x.machine(50064, 7, 30);
        x.machine(50064, 50, 11);
        Due.strip(x, 1, 2);
        x.copy(0, 0);
        x.copy(1, 0);
        x.copy(2, 1);
        x.copy(0, 1);
        x.copy(4, 0);
        x.copy(4, 0);
        // strip 2: generation 2, hiss 14, wear 11; strip 4: generation 1, hiss 50, wear 60
        Due.is("10: the older one", x.splice(2, 4, 1), 7);
        Due.is("10: generation", x.told(7, 3), 2);
        Due.is("10: hiss", x.told(7, 4), 50);
        Due.is("10: wear", x.told(7, 5), 60);
        x.copy(7, 1);
        x.cut(7, 1);
        Due.is("6: a piece has its generation", x.told(9, 3), 2);
        Due.is("6: a piece has its hiss", x.told(10, 4), 50);
        Due.is("6: a piece has its wear", x.told(10, 5), 71);
        x.turn(9);
        Due.is("7: wear of the turned", x.told(11, 5), 71);
        Due.is("7: hiss of the turned", x.told(11, 4), 50);
        x.loop(11);
        Due.is("8: wear of the loop", x.told(12, 5), 71);
        Due.is("8: generation of the loop", x.told(12, 3), 2);
    }

    private static void spliceRefused() {
        TapeStudio x = new TapeStudio();
        Due.ramp(x, 30, 1);
        Due.ramp(x, 21, 1);
        Due.ramp(x, 3, 1);
        Due.is("10: both are one", x.splice(0, 0, 1), NONE);
        Due.is("10: angle -1", x.splice(0, 1, -1), NONE);
        Due.is("10: angle 21", x.splice(0, 1, 21), NONE);
        Due.is("10: above the other's length", x.splice(0, 2, 4), NONE);
        Due.is("10: above the one's length", x.splice(2, 0, 4), NONE);
        Due.is("10: none such", x.splice(0, 3, 1), NONE);
        Due.is("10: none such", x.splice(-1, 0, 1), NONE);
        Due.is("10: all are there still", x.count(2), 3);
        x.loop(2);
        Due.is("10: a loop", x.splice(0, 3, 1), NONE);
        Due.is("10: a loop", x.splice(3, 0, 1), NONE);
        Due.is("10: a used one", x.splice(0, 2, 1), NONE);
        Due.is("10: angle 20", x.splice(0, 1, 20), 4);
        Due.is("10: its length", x.told(4, 2), 31);
    }

    private static void machine() {
        TapeStudio x = new TapeStudio();
        for (int what : new int[] {-1, 129, 50129, 50999, 101000, 100129, -50000, Integer.MAX_VALUE, Integer.MIN_VALUE}) {
            Due.is("11: " + what, x.machine(what, 0, 0), NONE);
        }
        Due.is("11: hiss 101", x.machine(50064, 101, 0), NONE);
        Due.is("11: hiss -1", x.machine(50064, -1, 0), NONE);
        Due.is("11: rough 201", x.machine(50064, 0, 201), NONE);
        Due.is("11: rough -1", x.machine(50064, 0, -1), NONE);
        Due.is("11: the least", x.machine(0, 0, 0), 0);
        Due.is("11: the greatest", x.machine(100128, 100, 200), 1);
        Due.is("11: third", x.machine(50064, 0, 0), 2);
        Due.is("11: fourth", x.machine(50064, 0, 0), 3);
        Due.is("11: fifth", x.machine(50064, 0, 0), NONE);
        Due.is("11: how many", x.count(5), 4);
    }

    private static void copy() {
        TapeStudio x = new TapeStudio();
        Due.strip(x, 0, 100, 200, 300, 400, 500, 600, 700, 800, 900, 1000);
        x.machine(100064, 60, 150);
        x.machine(64, 0, 0);
        x.machine(50128, 100, 200);
        x.go(7);
        Due.is("12: faster", x.copy(0, 0), 1);
        // 10*1000/1050 + 1 = 10 samples; i*1050: 1 rest 50, 2 rest 100, ..
        Due.row("12: faster", x, 1, 0, 105, 210, 315, 420, 525, 630, 735, 840, 945);
        Due.facts("12: told", x, 1, 5, 0, 10, 1, 60, 0, NONE, 7, 0, NONE, 0);
        Due.is("12: the strip is there still", x.told(0, 1), 0);
        Due.is("12: and worn", x.told(0, 5), 150);
        Due.is("12: slower", x.copy(0, 1), 2);
        Due.row("12: slower", x, 2, 0, 95, 190, 285, 380, 475, 570, 665, 760, 855, 950);
        Due.strip(x, 20000, -20000, 3, -3);
        Due.is("12: louder", x.copy(3, 2), 4);
        Due.row("12: louder", x, 4, 32767, -32768, 6, -6);
        Due.is("12: a machine with no level", x.machine(50000, 0, 0), 3);
        x.copy(3, 3);
        Due.row("12: silent", x, 5, 0, 0, 0, 0);
        x.copy(4, 2);
        x.copy(6, 2);
        Due.is("12: hiss", x.told(7, 4), 300);
        Due.is("12: generation", x.told(7, 3), 3);
        for (int i = 7; i < 15; i++) x.copy(i, 2);
        Due.is("12: hiss 1000", x.told(14, 4), 1000);
        Due.is("12: hiss is 1000 at most", x.told(15, 4), 1000);
        Due.is("12: generation 11", x.told(15, 3), 11);
        quotientsOfCopy();
    }

    private static void quotientsOfCopy() {
        TapeStudio x = new TapeStudio();
        x.machine(60033, 0, 0);
        Due.strip(x, -7, 0, -5, 300, -301);
        // AT 1010 BY 1000: 4000/1010 + 1 = 4; 0; 1010: 0 + 10*-5/1000 = 0; 2020: -5 + 20*305/1000 = 1;
        // 3030: 300 + 30*-601/1000 = 282; by 33/64: -3, 0, 0, 145
        x.copy(0, 0);
        Due.row("12: all quotients are cut toward 0", x, 1, -3, 0, 0, 145);
    }

    private static void copyRefused() {
        TapeStudio x = new TapeStudio();
        Due.strip(x, 1, 2, 3);
        Due.is("12: no such machine", x.copy(0, 0), NONE);
        x.machine(50064, 0, 200);
        Due.is("12: no such machine", x.copy(0, 1), NONE);
        Due.is("12: no such machine", x.copy(0, -1), NONE);
        Due.is("12: no such strip", x.copy(1, 0), NONE);
        Due.is("12: no such strip", x.copy(-1, 0), NONE);
        for (int i = 1; i <= 5; i++) Due.is("12: copy " + i, x.copy(0, 0), i);
        Due.is("12: worn", x.told(0, 5), 1000);
        Due.is("12: a worn one", x.copy(0, 0), NONE);
        Due.is("13: a worn one", x.speed(0, 0, 1, 1), NONE);
        Due.is("12: a copy isn't worn", x.told(1, 5), 0);
        x.loop(1);
        Due.is("12: a loop", x.copy(6, 0), NONE);
        Due.is("13: a loop", x.speed(6, 0, 1, 1), NONE);
        Due.is("12: a used one", x.copy(1, 0), NONE);
        x.lose(2);
        Due.is("12: a lost one", x.copy(2, 0), NONE);
        Due.is("13: a lost one", x.speed(2, 0, 1, 1), NONE);
        int longest = Due.ramp(x, 300, 1);
        x.machine(49064, 0, 200);
        Due.is("12: 300 samples at 999", x.copy(longest, 1), longest + 1);
        Due.is("12: are 300 still", x.told(longest + 1, 2), 300);
        x.machine(0, 0, 200);
        Due.is("12: 315 samples", x.copy(longest, 2), NONE);
        Due.is("12: and it isn't worn by that", x.told(longest, 5), 200);
    }

    private static void speed() {
        TapeStudio x = new TapeStudio();
        x.machine(100000, 9, 40);
        Due.strip(x, 0, 9, -9, 4);
        x.go(2);
        Due.is("13: at 1 by 3", x.speed(0, 0, 1, 3), 1);
        Due.row("13: at 1 by 3", x, 1, 0, 3, 6, 9, 3, -3, -9, -5, -1, 4);
        Due.facts("13: told", x, 1, 6, 0, 10, 1, 9, 0, NONE, 2, 0, NONE, 0);
        Due.is("13: wear", x.told(0, 5), 40);
        Due.is("13: there still", x.told(0, 1), 0);
        Due.is("13: at 2 by 1", x.speed(0, 0, 2, 1), 2);
        Due.row("13: at 2 by 1", x, 2, 0, -9);
        Due.is("13: at 3 by 2", x.speed(0, 0, 3, 2), 3);
        Due.row("13: at 3 by 2", x, 3, 0, 0, 4);
        Due.is("13: at 8 by 8", x.speed(0, 0, 8, 8), 4);
        Due.row("13: at 8 by 8", x, 4, 0, 9, -9, 4);
        Due.is("13: at 8 by 1", x.speed(0, 0, 8, 1), 5);
        Due.row("13: at 8 by 1", x, 5, 0);
        int[][] wrong = {{0, 1}, {1, 0}, {9, 1}, {1, 9}, {-1, 1}, {1, -1}, {Integer.MAX_VALUE, 2}};
        for (int[] pq : wrong) Due.is("13: at " + pq[0] + " by " + pq[1], x.speed(0, 0, pq[0], pq[1]), NONE);
        Due.is("13: no such machine", x.speed(0, 1, 1, 1), NONE);
        Due.is("13: no such machine", x.speed(0, -1, 1, 1), NONE);
        Due.is("13: no such strip", x.speed(6, 0, 1, 1), NONE);
        Due.is("13: wear of five", x.told(0, 5), 200);
        Due.ramp(x, 38, 1);
        Due.is("13: 297 samples", x.speed(6, 0, 1, 8), 7);
        Due.is("13: 297 samples", x.told(7, 2), 297);
        Due.ramp(x, 39, 1);
        Due.is("13: 305 samples", x.speed(8, 0, 1, 8), NONE);
        Due.is("13: it isn't worn", x.told(8, 5), 0);
    }

    private static void lose() {
        TapeStudio x = new TapeStudio();
        Due.strip(x, 1, 2);
        Due.no("14: none such", x.lose(1));
        Due.no("14: below", x.lose(-1));
        x.hang(0, 5);
        Due.yes("14: lost", x.lose(0));
        Due.is("14: how it is", x.told(0, 1), 2);
        Due.is("14: on no nail", x.nail(5), NONE);
        Due.is("14: on no nail", x.told(0, 6), NONE);
        Due.no("14: again", x.lose(0));
        Due.is("14: its samples are told", x.sample(0, 1), 2);
        Due.strip(x, 1, 2);
        x.turn(1);
        Due.no("14: a used one", x.lose(1));
        Due.is("14: it is used still", x.told(1, 1), 1);
    }

    private static void hang() {
        TapeStudio x = new TapeStudio();
        Due.strip(x, 1);
        Due.strip(x, 2);
        Due.yes("15: on none, from none", x.hang(0, NONE));
        Due.yes("15: on 0", x.hang(0, 0));
        Due.yes("15: on the same", x.hang(0, 0));
        Due.no("15: another one hangs there", x.hang(1, 0));
        Due.is("15: it hangs on none", x.told(1, 6), NONE);
        Due.yes("15: on 29", x.hang(1, 29));
        Due.no("15: on 30", x.hang(1, 30));
        Due.no("15: on -2", x.hang(1, -2));
        Due.is("16: on 29", x.nail(29), 1);
        Due.is("16: on 0", x.nail(0), 0);
        Due.is("16: on 30", x.nail(30), NONE);
        Due.is("16: on none", x.nail(-1), NONE);
        Due.is("16: on -2", x.nail(-2), NONE);
        Due.yes("15: to another nail", x.hang(0, 3));
        Due.is("16: the one before is free", x.nail(0), NONE);
        Due.is("16: the other one isn't", x.nail(3), 0);
        Due.is("21: told", x.told(0, 6), 3);
        Due.yes("15: off", x.hang(0, NONE));
        Due.is("16: off", x.nail(3), NONE);
        Due.no("15: none such", x.hang(2, 1));
        Due.no("15: below", x.hang(-1, 1));
        x.lose(1);
        Due.no("15: a lost one", x.hang(1, 1));
        Due.no("15: a lost one, on none", x.hang(1, NONE));
        Due.strip(x, 3);
        Due.yes("15: the lost one's nail", x.hang(2, 29));
        x.loop(2);
        Due.no("15: a used one", x.hang(2, 7));
        Due.yes("15: a loop", x.hang(3, 29));
        Due.is("16: a loop", x.nail(29), 3);
    }

    private static void readAndMarked() {
        TapeStudio x = new TapeStudio();
        Due.no("17: none such", x.read(0, 1));
        Due.strip(x, 1);
        Due.strip(x, 1);
        Due.no("17: below", x.read(-1, 1));
        Due.no("17: mark -1", x.read(0, -1));
        Due.no("17: mark 1000", x.read(0, 1000));
        Due.is("18: none", x.marked(0, 400), NONE);
        Due.yes("17: mark 0", x.read(0, 0));
        Due.is("18: mark 0", x.marked(0, 0), 0);
        x.go(10);
        Due.yes("17: mark 999", x.read(0, 999));
        Due.is("18: the day before", x.marked(0, 9), 0);
        Due.is("18: that day", x.marked(0, 10), 999);
        Due.is("18: a later day", x.marked(0, 400), 999);
        Due.is("18: no such day", x.marked(0, 401), NONE);
        Due.is("18: no such day", x.marked(0, -1), NONE);
        Due.is("18: no such strip", x.marked(2, 10), NONE);
        Due.is("18: no such strip", x.marked(-1, 10), NONE);
        Due.yes("17: twice a day", x.read(0, 5));
        Due.is("18: the latest", x.marked(0, 10), 5);
        Due.is("18: of the other strip", x.marked(1, 10), NONE);
        x.lose(0);
        Due.yes("17: a lost one", x.read(0, 6));
        Due.is("18: a lost one", x.marked(0, 10), 6);
        x.turn(1);
        Due.yes("17: a used one", x.read(1, 7));
        Due.is("18: a used one", x.marked(1, 10), 7);
        Due.is("18: what was made of it has none", x.marked(2, 10), NONE);
        for (int i = 5; i < 100; i++) Due.yes("17: reading " + i, x.read(1, i));
        Due.no("17: the 101st", x.read(1, 100));
        Due.is("18: the 100th", x.marked(1, 10), 99);
    }

    private static void go() {
        TapeStudio x = new TapeStudio();
        Due.is("19: none", x.go(0), 0);
        Due.is("19: -1", x.go(-1), NONE);
        Due.is("19: 101", x.go(101), NONE);
        Due.is("19: far", x.go(Integer.MAX_VALUE), NONE);
        Due.is("19: 100", x.go(100), 100);
        Due.is("19: 100 more", x.go(100), 200);
        Due.is("19: 99 more", x.go(99), 299);
        Due.is("19: 100 more", x.go(100), 399);
        Due.is("19: up to 400", x.go(2), 400);
        Due.is("43: now", x.count(0), 400);
        Due.is("19: no day more", x.go(100), 400);
        Due.is("19: none", x.go(0), 400);
        Due.is("19: 101", x.go(101), NONE);
    }

    private static void sampleAndTold() {
        TapeStudio x = new TapeStudio();
        Due.strip(x, 11, -12);
        Due.is("20: first", x.sample(0, 0), 11);
        Due.is("20: last", x.sample(0, 1), -12);
        Due.is("20: behind", x.sample(0, 2), Due.NO_SAMPLE);
        Due.is("20: ahead", x.sample(0, -1), Due.NO_SAMPLE);
        Due.is("20: far", x.sample(0, Integer.MAX_VALUE), Due.NO_SAMPLE);
        Due.is("20: no such strip", x.sample(1, 0), Due.NO_SAMPLE);
        Due.is("20: no such strip", x.sample(-1, 0), Due.NO_SAMPLE);
        Due.is("21: 11", x.told(0, 11), NONE);
        Due.is("21: -1", x.told(0, -1), NONE);
        Due.is("21: no such strip", x.told(1, 10), NONE);
        Due.is("21: no such strip", x.told(-1, 0), NONE);
        Due.is("21: begin of a strip", x.told(0, 10), 0);
        x.go(40);
        Due.strip(x, 1);
        Due.is("21: the day on which it came", x.told(1, 7), 40);
        Due.is("21: and the other one", x.told(0, 7), 0);
    }

    private static void limitOfStrips() {
        TapeStudio x = new TapeStudio();
        x.machine(50064, 0, 10);
        for (int i = 0; i < 10; i++) {
            x.hand(1, 2, 3, 4, 5);
            for (int k = 0; k < 5 && x.count(1) < 98; k++) x.strip(2);
        }
        for (int i = 0; x.count(1) < 98; i++) x.turn(i);
        x.hand(1, 2, 3, 4, 5);
        x.strip(3);
        Due.is("4: 99 strips", x.count(1), 99);
        Due.is("6: both pieces would be too many", x.cut(98, 1), NONE);
        Due.is("6: it stays", x.told(98, 1), 0);
        Due.is("12: the 100th", x.copy(98, 0), 99);
        Due.is("4: the 101st strip", x.strip(1), NONE);
        Due.is("4: the hand stays", x.count(4), 7);
        Due.is("7: too many", x.turn(98), NONE);
        Due.is("8: too many", x.loop(98), NONE);
        Due.is("10: too many", x.splice(98, 99, 0), NONE);
        Due.is("12: too many", x.copy(98, 0), NONE);
        Due.is("13: too many", x.speed(98, 0, 1, 1), NONE);
        Due.is("12: not worn by what is refused", x.told(98, 5), 10);
        Due.is("14: all stay", x.told(98, 1), 0);
        Due.is("43: 100 strips", x.count(1), 100);
    }

    private static void theHundredth() {
        for (int how = 0; how < 6; how++) {
            TapeStudio x = new TapeStudio();
            x.machine(50064, 0, 0);
            Due.strip(x, 1, 2);
            Due.strip(x, 3, 4);
            x.hand(1, 2, 3, 4, 5);
            for (int i = 1; x.count(1) < (how == 5 ? 98 : 99); i++) x.turn(i);
            int[] came = {how == 0 ? x.strip(2) : 0, how == 1 ? x.turn(0) : 0, how == 2 ? x.loop(0) : 0,
                how == 3 ? x.splice(0, 98, 1) : 0, how == 4 ? x.speed(0, 0, 1, 1) : 0, how == 5 ? x.cut(0, 1) : 0};
            Due.is("4 to 13: the 100th, made by " + how, came[how], how == 5 ? 98 : 99);
            Due.is("4 to 13: 100 are there, by " + how, x.count(1), 100);
        }
    }

    private static void limitOfSamples() {
        TapeStudio x = new TapeStudio();
        x.machine(50064, 0, 10);
        Due.strip(x, new int[300]);
        for (int i = 0; i < 65; i++) x.turn(i);
        Due.is("43: 66 of 300", x.count(3), 19800);
        Due.strip(x, new int[190]);
        Due.is("43: samples that came", x.count(3), 19990);
        x.hand(1, 1, 1, 1, 1);
        x.hand(1, 1, 1, 1, 1);
        Due.is("4: too many samples", x.strip(11), NONE);
        Due.is("7: too many samples", x.turn(66), NONE);
        Due.is("8: too many samples", x.loop(66), NONE);
        Due.is("12: too many samples", x.copy(66, 0), NONE);
        Due.is("13: too many samples", x.speed(66, 0, 8, 1), NONE);
        Due.is("6: too many samples", x.cut(66, 95), NONE);
        Due.is("4: as many as can be", x.strip(10), 67);
        Due.is("43: 20000", x.count(3), 20000);
        Due.is("4: one more", x.strip(1), NONE);
        Due.is("7: one more", x.turn(67), NONE);
    }
}
