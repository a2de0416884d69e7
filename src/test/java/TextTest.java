/** Promises 22 to 25: the text, its faults, and the scores that come of it. */
public final class TextTest {
    private static final int NONE = TapeStudio.NONE;
    private static final String TAKE = "a = take 0 ; ";

    public static void main(String[] args) {
        feed();
        end();
        standing();
        tokens();
        tooEarly();
        words();
        keywords();
        numbers();
        forms();
        again();
        fortyOrders();
        score();
        Due.close();
    }

    private static void feed() {
        TapeStudio x = new TapeStudio();
        Due.is("22: twenty", x.feed(0x61203d20, 0x74616b65, 0x20303b20, 0x20202020, 0x2020200a), 20);
        Due.is("22: they are a text", x.fault(), NONE);
        for (int i = 2; i <= 60; i++) Due.is("22: filling", x.feed(0x20202020, 0x20202020, 0x20202020, 0x20202020, 0x20202020), 20 * i);
        Due.is("22: too many", x.feed(1, 2, 3, 4, 5), NONE);
        Due.is("22: nothing came then", x.count(7), 1200);
        Due.is("22: 1200 bytes", x.fault(), NONE);
        x.end(1181);
        Due.is("22: one byte too many", x.feed(1, 2, 3, 4, 5), NONE);
        x.end(1180);
        Due.is("22: just as many", x.feed(0xff202020, 2, 3, 4, 5), 1200);
        Due.is("22: the highest byte first", x.fault(), 1180);
    }

    private static void end() {
        TapeStudio x = new TapeStudio();
        Due.yes("23: of nothing", x.end(0));
        Due.no("23: not so many", x.end(1));
        x.feed(0x61203d20, 0x74616b65, 0x20303b20, 0x78787878, 0);
        Due.no("23: below", x.end(-1));
        Due.no("23: 21", x.end(21));
        Due.no("23: far", x.end(Integer.MAX_VALUE));
        Due.yes("23: all", x.end(20));
        Due.is("23: all", x.fault(), 16);
        Due.yes("23: some", x.end(12));
        Due.is("23: some", x.fault(), NONE);
        Due.is("23: how many", x.count(7), 12);
        Due.no("23: no more are there", x.end(13));
        x.feed(0x62203d20, 0x74616b65, 0x20303b20, 0x20202020, 0x20202020);
        Due.is("23: more come behind them", x.fault(), NONE);
    }

    private static void standing() {
        Due.fault("", NONE);
        Due.fault(" \n ", NONE);
        Due.fault("a = take 0;", NONE);
        Due.fault(TAKE + "put a at 0 on 0;", NONE);
        Due.fault("a=take0;b=turna;", 10);
        Due.fault("a=take0;b=turn a;put b at0on0;", NONE);
        Due.fault("a=take 00099\n;\n", NONE);
    }

    private static void tokens() {
        Due.fault("A = take 0;", 0);
        Due.fault("a = take 0, ;", 10);
        Due.fault("a\t= take 0;", 1);
        Due.fault("a = take \r0;", 9);
        Due.fault("a = take 0;\u0000", 11);
        Due.fault("a = take 0;\u00e9", 11);
        Due.fault("a = take -1;", 9);
        Due.fault("a = take 100; #", 9);
        Due.fault("a = # take 100;", 4);
        Due.fault("= a", 0);
        Due.fault(";", 0);
        Due.fault("7", 0);
        Due.fault(TAKE + ";", 13);
        Due.fault(TAKE + "}", 13);
        Due.fault("a b", 2);
        Due.fault("a1 = take 0;", 1);
        Due.fault("a == take 0;", 3);
        Due.fault("a = take ;", 9);
        Due.fault("a = take 0 b", 11);
        Due.fault("a = take 0 1;", 11);
    }

    private static void tooEarly() {
        String text = TAKE + "b = splice a a angle 3; again 2 by 3 { put b at 0 on 0; }";
        boolean[] whole = new boolean[text.length() + 1];
        whole[0] = true;
        whole[12] = true;
        whole[13] = true;
        whole[36] = true;
        whole[37] = true;
        whole[text.length()] = true;
        for (int n = 0; n <= text.length(); n++) {
            String part = text.substring(0, n);
            // a keyword of which letters are missing can't stand there, and neither can W's that aren't known
            if (!part.isEmpty() && Character.isLetter(part.charAt(n - 1)) && n < text.length()
                    && Character.isLetter(text.charAt(n))) continue;
            Due.fault(part, whole[n] ? NONE : n);
        }
        Due.fault("a = take 0  \n", 13);
        Due.fault("a", 1);
        Due.fault("put", 3);
        Due.fault("again", 5);
        Due.fault("again 1 by 0 { ", 15);
    }

    private static void words() {
        Due.fault("abcdef = take 0;", NONE);
        Due.fault("abcdefg = take 0;", 0);
        Due.fault("abcdef = take 0; b = turn abcdefg;", 26);
        Due.fault("a = take 0; a = take 0;", 12);
        Due.fault("a = take 0; b = turn b;", 21);
        Due.fault("a = take 0; b = turn c;", 21);
        Due.fault("b = turn a; a = take 0;", 9);
        Due.fault("a = take 0; aa = turn a; b = turn aa;", NONE);
        Due.fault("a = take 0; b = splice a b angle 0;", 25);
        Due.fault("a = take 0; b = splice b a angle 0;", 23);
        Due.fault("a = take 0; put b at 0 on 0;", 16);
        Due.fault("ab = take 0; b = turn a;", 22);
        Due.fault("z = take 0; zz = take 0; zzz = take 0; zzzzzz = splice zzz zz angle 0; zzzzz = turn zzzzzz;", NONE);
    }

    private static void keywords() {
        String all = "take mark cut from to turn speed splice angle loop for echo after by copy on filter fade in out gain"
                + " put at again";
        for (String word : all.split(" ")) {
            if (!word.equals("put") && !word.equals("again")) Due.fault(word + " = take 0;", 0);
            Due.fault("a = take 0; b = turn " + word + ";", 21);
            Due.fault(TAKE + "put " + word + " at 0 on 0;", 17);
            boolean verb = "take mark cut turn speed splice loop echo copy filter fade gain".contains(word)
                    && !word.equals("in");
            if (!verb) Due.fault("a = " + word + " 0;", 4);
        }
        Due.fault("put = take 0;", 4);
        Due.fault("again = take 0;", 6);
        Due.fault("takes = take 0; tak = turn takes; ta = turn tak; o = turn ta; filte = turn o;", NONE);
        Due.fault("a = give 0;", 4);
        Due.fault("a = b;", 4);
    }

    private static void bounds(String ahead, String behind, int least, int most) {
        int place = ahead.length();
        Due.fault(ahead + least + behind, NONE);
        Due.fault(ahead + most + behind, NONE);
        Due.fault(ahead + (most + 1) + behind, place);
        Due.fault(ahead + "4294967296" + behind, place);
        Due.fault(ahead + "99999999999999999999999" + behind, place);
        Due.fault(ahead + "x" + behind, place);
        if (least > 0) Due.fault(ahead + (least - 1) + behind, place);
    }

    private static void numbers() {
        bounds("a = take ", ";", 0, 99);
        bounds("a = mark ", ";", 0, 999);
        bounds(TAKE + "b = cut a from ", " to 5;", 0, 1500);
        bounds(TAKE + "b = cut a from 3 to ", ";", 0, 1500);
        bounds(TAKE + "b = speed a ", " / 2;", 1, 8);
        bounds(TAKE + "b = speed a 3 / ", ";", 1, 8);
        bounds(TAKE + "b = splice a a angle ", ";", 0, 40);
        bounds(TAKE + "b = loop a for ", ";", 0, 1500);
        bounds(TAKE + "b = echo a after ", " by 1;", 1, 500);
        bounds(TAKE + "b = echo a after 1 by ", ";", 0, 255);
        bounds(TAKE + "b = copy a on ", ";", 0, 3);
        bounds(TAKE + "b = filter a ", " 1 2;", 0, 128);
        bounds(TAKE + "b = filter a 1 ", " 2;", 0, 128);
        bounds(TAKE + "b = filter a 1 2 ", ";", 0, 128);
        bounds(TAKE + "b = fade a in ", " out 3;", 0, 1500);
        bounds(TAKE + "b = fade a in 3 out ", ";", 0, 1500);
        bounds(TAKE + "b = gain a ", ";", 0, 128);
        bounds(TAKE + "put a at ", " on 3;", 0, 1500);
        bounds(TAKE + "put a at 3 on ", ";", 0, 15);
        bounds(TAKE + "again ", " by 3 { put a at 0 on 0; }", 1, 9);
        bounds(TAKE + "again 3 by ", " { put a at 0 on 0; }", 0, 999);
        bounds(TAKE + "again 3 by 4 { put a at ", " on 3; }", 0, 1500);
        bounds(TAKE + "again 3 by 4 { put a at 3 on ", "; }", 0, 15);
    }

    /** Each token of each form, left out: then the next one can't stand. */
    private static void forms() {
        String[] forms = {"take 1", "mark 1", "cut a from 1 to 2", "turn a", "speed a 1 / 2", "splice a c angle 1",
            "loop a for 3", "echo a after 1 by 2", "copy a on 1", "filter a 1 2 3", "fade a in 1 out 2", "gain a 1"};
        String ahead = TAKE + "c = take 1; ";
        for (String form : forms) {
            String[] tokens = ("b = " + form + " ;").split(" ");
            Due.fault(ahead + String.join(" ", tokens), NONE);
            for (int out = 0; out < tokens.length; out++) {
                StringBuilder text = new StringBuilder(ahead);
                int fault = ahead.length();
                for (int i = 0; i < tokens.length; i++) {
                    if (i == out) fault = text.length();
                    else text.append(tokens[i]).append(' ');
                }
                // of three numbers that are alike, the one behind them can't stand
                boolean number = tokens[out].matches("[0-9]") && out + 1 < tokens.length && tokens[out + 1].matches("[0-9]");
                boolean row = tokens[out].equals("a") && out + 1 < tokens.length && tokens[out + 1].equals("c");
                if (out == 0) Due.fault(text.toString(), fault);
                else if (out == tokens.length - 1) Due.fault(text.toString(), text.length());
                else if (!number && !row) Due.fault(text.toString(), fault);
            }
        }
        Due.fault(ahead + "b = filter a 1 2;", ahead.length() + 16);
        Due.fault(ahead + "b = splice a angle 1;", ahead.length() + 13);
        Due.fault(ahead + "b = speed a 1 2;", ahead.length() + 14);
    }

    private static void again() {
        String ahead = TAKE;
        Due.fault(ahead + "again 2 by 3 { put a at 0 on 0; put a at 1 on 1; } put a at 0 on 0;", NONE);
        Due.fault(ahead + "again 2 by 3 { }", 28);
        Due.fault(ahead + "again 2 by 3 { put a at 0 on 0; };", 46);
        Due.fault(ahead + "again 2 by 3 { put a at 0 on 0 }", 44);
        Due.fault(ahead + "again 2 by 3 { b = take 0; }", 28);
        Due.fault(ahead + "again 2 by 3 { again 2 by 3 { put a at 0 on 0; } }", 28);
        Due.fault(ahead + "again 2 by 3 put a at 0 on 0;", 26);
        Due.fault(ahead + "again 2 { put a at 0 on 0; }", 21);
        Due.fault(ahead + "again by 3 { put a at 0 on 0; }", 19);
        Due.fault(ahead + "again 2 by 3 { put a at 0 on 0; b = take 0; }", 45);
        Due.fault(ahead + "again 2 by 3 { put a at 0 on 0; ", ahead.length() + 32);
        Due.fault("again 2 by 3 { put a at 0 on 0; }", 19);
    }

    private static String puts(int n) {
        StringBuilder text = new StringBuilder("a=take 0;");
        for (int i = 0; i < n; i++) text.append("put a at 0 on 0;");
        return text.toString();
    }

    private static void fortyOrders() {
        Due.fault(puts(39), NONE);
        String forty = puts(39);
        int n = forty.length();
        Due.fault(puts(40), n);
        Due.fault(forty + " b = take 0;", n + 1);
        Due.fault(forty + "again 2 by 3 { put a at 0 on 0; }", n + 15);
        Due.fault(forty + "again 10 by 3 { put a at 0 on 0; }", n + 6);
        Due.fault(forty + "\n\n", NONE);
        Due.fault(puts(38) + "again 2 by 3 { put a at 0 on 0; }", NONE);
        Due.fault(puts(38) + "again 2 by 3 { put a at 0 on 0; put a at 0 on 0; }", n - 16 + 32);
        TapeStudio x = new TapeStudio();
        Due.score(x, puts(38) + "again 2 by 3 { put a at 0 on 0; }");
        Due.is("43: again is no order", x.count(20), 40);
    }

    private static void score() {
        TapeStudio x = new TapeStudio();
        Due.is("25: of no text", x.score(), 0);
        Due.is("43: it has no order", x.count(20), 0);
        Due.text(x, "a = take");
        Due.is("25: with a fault", x.score(), NONE);
        Due.is("25: the text stays", x.count(7), 8);
        Due.is("25: and its fault", x.fault(), 8);
        for (int i = 1; i < 8; i++) {
            Due.is("25: score " + i, Due.score(x, "a = take 0; put a at " + i + " on 0;"), i);
            Due.is("25: the text is empty then", x.count(7), 0);
            Due.is("43: its orders", x.count(20 + i), 2);
            Due.is("43: scores", x.count(6), i + 1);
        }
        Due.is("25: a ninth", Due.score(x, "a = take 0;"), NONE);
        Due.is("25: its text stays", x.count(7), 11);
        Due.is("43: no ninth", x.count(28), NONE);
        Due.strip(x, 5);
        Due.is("25: a text that comes later changes no score", x.make(3, 0), 4);
    }
}
