/** Compares answers with what is due, and makes what most tests begin with. */
final class Due {
    static final int NONE = -1;
    static final int NO_SAMPLE = Integer.MIN_VALUE;

    private static int wrong;
    private static int compared;

    private Due() { }

    static void is(String what, long got, long due) {
        compared++;
        if (got != due) {
            wrong++;
            System.out.println(what + ": answered " + got + ", due is " + due);
        }
    }

    static void yes(String what, boolean got) { is(what, got ? 1 : 0, 1); }

    static void no(String what, boolean got) { is(what, got ? 1 : 0, 0); }

    /** Ends a test's main: exit code 1, if an answer was wrong. */
    static void close() {
        System.out.println(compared + " answers compared, " + wrong + " wrong");
        if (wrong != 0) System.exit(1);
    }

    /** Feeds at most ten samples to the hand, zeros behind them. */
    static int ten(TapeStudio x, int... samples) {
        int[] pairs = new int[5];
        for (int i = 0; i < samples.length; i++) pairs[i / 2] |= (samples[i] & 0xffff) << (i % 2 == 0 ? 16 : 0);
        return x.hand(pairs[0], pairs[1], pairs[2], pairs[3], pairs[4]);
    }

    /** Makes the hand these samples, and as many zeros as fill the last ten. */
    static void inHand(TapeStudio x, int... samples) {
        x.drop();
        for (int i = 0; i < samples.length; i += 10) {
            ten(x, java.util.Arrays.copyOfRange(samples, i, Math.min(i + 10, samples.length)));
        }
    }

    /** A strip of these samples; the hand is empty then. */
    static int strip(TapeStudio x, int... samples) {
        inHand(x, samples);
        int number = x.strip(samples.length);
        x.drop();
        return number;
    }

    /** A strip of n samples, i times by each. */
    static int ramp(TapeStudio x, int n, int by) {
        int[] samples = new int[n];
        for (int i = 0; i < n; i++) samples[i] = i * by;
        return strip(x, samples);
    }

    /** Lays these samples on the tape; the hand is empty then. */
    static int onTape(TapeStudio x, int... samples) {
        inHand(x, samples);
        int size = x.tape(samples.length);
        x.drop();
        return size;
    }

    static void row(String what, TapeStudio x, int strip, int... due) {
        is(what + ", length", x.told(strip, 2), due.length);
        for (int i = 0; i < due.length; i++) is(what + ", sample " + i, x.sample(strip, i), due[i]);
        is(what + ", behind the last", x.sample(strip, due.length), NO_SAMPLE);
    }

    static void facts(String what, TapeStudio x, int strip, int... due) {
        for (int i = 0; i < due.length; i++) is(what + ", told " + i, x.told(strip, i), due[i]);
    }

    static void piece(String what, TapeStudio x, int... due) {
        is(what + ", length", x.count(10), due.length);
        for (int i = 0; i < due.length; i++) is(what + ", out " + i, x.out(i), due[i]);
        is(what + ", behind the last", x.out(due.length), NO_SAMPLE);
    }

    /** Makes the text this one. */
    static void text(TapeStudio x, String text) {
        x.end(0);
        for (int i = 0; i < text.length(); i += 20) {
            int[] five = new int[5];
            for (int k = 0; k < 20; k++) {
                int sign = i + k < text.length() ? text.charAt(i + k) & 255 : ' ';
                five[k / 4] = five[k / 4] << 8 | sign;
            }
            x.feed(five[0], five[1], five[2], five[3], five[4]);
        }
        if (!x.end(text.length())) is("a text of " + text.length(), x.count(7), text.length());
    }

    static int score(TapeStudio x, String text) {
        text(x, text);
        return x.score();
    }

    static void fault(String text, int due) {
        TapeStudio x = new TapeStudio();
        text(x, text);
        is("fault of <" + (text.length() > 90 ? text.substring(0, 90) + ".." : text) + ">", x.fault(), due);
        is("score of it", x.score(), due == NONE ? 0 : NONE);
        is("bytes of it then", x.count(7), due == NONE ? 0 : text.length());
    }

    /** Row z, put at 0 on track 0, is this. */
    static void makes(String what, TapeStudio x, String text, int... due) {
        int score = score(x, text + " put z at 0 on 0;");
        is(what + ": fails", x.fails(score, x.count(0)), NONE);
        is(what + ": made", x.make(score, x.count(0)), due.length);
        piece(what, x, due);
    }

    /** Which order of this text fails. */
    static void fails(String what, TapeStudio x, String text, int due) {
        int score = score(x, text);
        is(what + ": fails", x.fails(score, x.count(0)), due);
        is(what + ": made", x.make(score, x.count(0)), NONE);
    }
}
