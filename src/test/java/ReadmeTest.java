/** The example of README.md: each call with the answer that it tells. */
public final class ReadmeTest {
    private ReadmeTest() { }

    public static void main(String[] args) {
        TapeStudio studio = new TapeStudio();
        strips(studio);
        score(studio);
        tape(studio);
        Due.close();
    }

    private static void strips(TapeStudio studio) {
        Due.is("hand", studio.hand(0x000A0014, 0x001E0028, 0, 0, 0), 10);
        Due.is("strip", studio.strip(4), 0);
        Due.is("turn", studio.turn(0), 1);
        Due.row("turned", studio, 1, 40, 30, 20, 10);
        Due.is("told", studio.told(0, 1), 1);
    }

    private static void score(TapeStudio studio) {
        feed(studio, "a = take 1 ; b = turn a ; put b at 2 on 0 ; put a at 0 on 1 ;");
        Due.is("fault", studio.fault(), Due.NONE);
        Due.is("score", studio.score(), 0);
        Due.is("make", studio.make(0, 0), 6);
        Due.piece("piece", studio, 40, 30, 30, 30, 30, 40);
        Due.is("why", studio.why(2, 1), 1);
        Due.is("lead, strip", studio.lead(2, 0, 1), 1);
        Due.is("lead, place", studio.lead(2, 0, 2), 3);
    }

    private static void tape(TapeStudio studio) {
        studio.drop();
        studio.hand(0x0014001E, 0x00280028, 0x001E0000, 0, 0);
        Due.is("tape", studio.tape(5), 5);
        Due.is("near, strip", studio.near(0, 3, 0, 0), 0);
        Due.is("near, way", studio.near(0, 3, 0, 1), 0);
        Due.is("near, place", studio.near(0, 3, 0, 2), 1);
        Due.is("remade", studio.remade(2, 0), 2);
        Due.is("stretch", studio.stretch(2, 0, 1), 3);
    }

    /** As README.md has it. */
    static void feed(TapeStudio studio, String text) {
        int before = studio.count(7);
        for (int i = 0; i < text.length(); i += 20) {
            int[] five = new int[5];
            for (int k = 0; k < 20; k++) {
                int sign = i + k < text.length() ? text.charAt(i + k) : ' ';
                five[k / 4] = five[k / 4] << 8 | sign;
            }
            studio.feed(five[0], five[1], five[2], five[3], five[4]);
        }
        studio.end(before + text.length());
    }
}
