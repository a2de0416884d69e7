/**
 * The edges that the document names for texts and scores (Terms ==== 2. up to FAULT, promises 22 to 25): each sentence has
 * a test of its own.
 */
public final class TextEdgesTest {
    private static final int NONE = TapeStudio.NONE;
    private static final int FAR = Integer.MAX_VALUE;
    private static final int FAR_BELOW = Integer.MIN_VALUE;
    private static final String TAKE = "a = take 0;";
    private static final int BLANKS = 0x20202020;

    public static void main(String[] args) {
        aTextHasAtMost1200Bytes();
        theHighestByteIsFirst();
        endsAre0ToTheLength();
        noTextIsAScore();
        blanksAndLineEndsAreBetween();
        otherBytesBeginNoToken();
        bytesThatBeginNoTokenAreLookedAtInTheirTurn();
        tokensAreAsLongAsCanBe();
        wordsHave1To6Letters();
        eachLetterOfAWordCounts();
        wordsAreNotThoseOfTheForms();
        aWordAheadOfItsSignIsNew();
        anyOtherWordStandsAhead();
        sourcesAreInTheirBounds();
        rowsAreInTheirBounds();
        putsAreInTheirBounds();
        numbersOfManyDigits();
        ordersAreNoneTo40();
        inAgainEachPutCounts();
        onePutAtLeastIsInAgain();
        eachOrderIsEndedButAgain();
        whatEndsTooEarly();
        scoresAreAtMost8();
        aFaultLeavesTheText();
        Due.close();
    }

    private static void fed(TapeStudio x, int bytes) {
        for (int i = 0; i < bytes; i += 20) x.feed(BLANKS, BLANKS, BLANKS, BLANKS, BLANKS);
        x.end(bytes);
    }

    private static void aTextHasAtMost1200Bytes() {
        for (int bytes : new int[] {1181, 1190, 1199, 1200}) {
            Refused.none("22: NONE if there would be more than 1200, " + bytes, x -> fed(x, bytes),
                    x -> x.feed(0x61616161, BLANKS, BLANKS, BLANKS, BLANKS));
        }
        TapeStudio x = new TapeStudio();
        fed(x, 1180);
        Due.is("22: 1200 are taken", x.feed(BLANKS, BLANKS, BLANKS, BLANKS, 0x2020203b), 1200);
        Due.is("24: the last byte is read", x.fault(), 1199);
        Due.yes("23: all 1200", x.end(1200));
        Due.is("43: bytes of the TEXT", x.count(7), 1200);
        Due.is("24: one fewer", x.end(1199) ? x.fault() : 0, NONE);
        TapeStudio y = new TapeStudio();
        Due.is("22: the first 20", y.feed(BLANKS, BLANKS, BLANKS, BLANKS, BLANKS), 20);
        Due.fault(" ".repeat(1189) + TAKE, NONE);
        Due.fault(" ".repeat(1190) + TAKE.substring(0, 10), 1200);
    }

    private static void theHighestByteIsFirst() {
        for (int place = 0; place < 20; place++) {
            int[] five = {BLANKS, BLANKS, BLANKS, BLANKS, BLANKS};
            five[place / 4] ^= (0x20 ^ 0xff) << 24 - place % 4 * 8;
            TapeStudio x = new TapeStudio();
            x.feed(five[0], five[1], five[2], five[3], five[4]);
            Due.is("22: the highest first, byte " + place, x.fault(), place);
        }
    }

    private static void endsAre0ToTheLength() {
        for (int n : new int[] {-1, 12, 20, 1201, FAR, FAR_BELOW}) {
            Refused.no("23: it has not so many, or below 0: " + n, x -> Due.text(x, TAKE), x -> x.end(n));
        }
        Refused.no("23: of an empty text", x -> { }, x -> x.end(1));
        TapeStudio x = new TapeStudio();
        Due.yes("23: 0 of none", x.end(0));
        Due.text(x, TAKE);
        Due.yes("23: all", x.end(11));
        Due.is("24: all", x.fault(), NONE);
        Due.yes("23: all but one", x.end(10));
        Due.is("24: all but one", x.fault(), 10);
        Due.no("23: what was cut off is gone", x.end(11));
        Due.yes("23: none", x.end(0));
        Due.is("43: none", x.count(7), 0);
    }

    private static void noTextIsAScore() {
        TapeStudio x = new TapeStudio();
        Due.is("24: an empty text has no FAULT", x.fault(), NONE);
        Due.is("25: ORDERS, none to 40: none", x.score(), 0);
        Due.is("43: how many", x.count(20), 0);
        Due.is("26: its PIECE", x.make(0, 0), 0);
        Due.is("27: nothing in it FAILS", x.fails(0, 0), NONE);
        Due.fault(" ", NONE);
        Due.fault("\n", NONE);
        Due.fault(" \n \n\n  ", NONE);
    }

    private static void blanksAndLineEndsAreBetween() {
        Due.fault("a=take 0;put a at 0 on 0;", NONE);
        Due.fault(" a = take 0 ; put a at 0 on 0 ; ", NONE);
        Due.fault("\na\n=\ntake\n0\n;\nput\na\nat\n0\non\n0\n;\n", NONE);
        Due.fault("a=take0;put a at0on0;again1by0{put a at0on0;}", NONE);
        Due.fault("a  \n\n  =   take  \n0  ;", NONE);
        Due.fault("a = ta ke 0;", 4);
        Due.fault("a = take 1 1;", 11);
    }

    private static void otherBytesBeginNoToken() {
        for (int sign = 0; sign < 256; sign++) {
            int due = sign == ' ' || sign == '\n' ? NONE : sign >= 'b' && sign <= 'z' ? 12 : 11;
            Due.fault(TAKE + (char) sign, due);
            if (sign < 'a' || sign > 'z') {
                int between = sign == ' ' || sign == '\n' ? NONE : sign == '=' ? 2 : 1;
                Due.fault("a" + (char) sign + "= take 0;", between);
            }
        }
    }

    private static void bytesThatBeginNoTokenAreLookedAtInTheirTurn() {
        Due.fault("a = take 0 $ ;", 11);
        Due.fault("a = take $ 100;", 9);
        Due.fault("a = take 100 $;", 9);
        Due.fault("$ a = take 0;", 0);
        Due.fault("a $", 2);
        Due.fault("a = take 0;\n$", 12);
        Due.fault("a = b $", 4);
    }

    private static void tokensAreAsLongAsCanBe() {
        Due.fault("a = takes 0;", 4);
        Due.fault("a = take 0; b = turna;", 16);
        Due.fault("a = take 9 9;", 11);
        Due.fault("a = take 99;", NONE);
        Due.fault("a = take 0x;", 10);
        Due.fault("a2 = take 0;", 1);
        Due.fault("a = take 00000000000000000000000000000000099;", NONE);
        Due.fault("a = take 000000000000000000000000000000000100;", 9);
    }

    private static void wordsHave1To6Letters() {
        for (int n = 1; n <= 6; n++) Due.fault("abcdef".substring(0, n) + "=take 0;", NONE);
        Due.fault("abcdefg=take 0;", 0);
        Due.fault("abcdefghijklmnopqrstuvwxyz=take 0;", 0);
        Due.fault(TAKE + "put aaaaaaa at 0 on 0;", 15);
        Due.fault("abcdef=take 0;b=turn abcdefg;", 21);
        Due.fault("abcdef=take 0;b=turn abcde;", 21);
    }

    private static void eachLetterOfAWordCounts() {
        StringBuilder one = new StringBuilder("aaaaaa=take 0;");
        for (int i = 0; i < 6; i++) {
            for (char letter : new char[] {'b', 'q', 'z'}) {
                StringBuilder word = new StringBuilder("aaaaaa");
                word.setCharAt(i, letter);
                one.append(word).append("=take 0;");
                Due.fault("aaaaaa=take 0;b=turn " + word + ";", 21);
            }
        }
        Due.fault(one.toString(), NONE);
        StringBuilder all = new StringBuilder();
        for (char letter = 'a'; letter <= 'z'; letter++) all.append(letter).append("=take 0;");
        Due.fault(all.toString(), NONE);
        for (char letter = 'a'; letter <= 'z'; letter++) Due.fault(all + "" + letter + "=take 0;", all.length());
        Due.fault("a=take 0;aa=take 0;aaa=take 0;aaaa=take 0;aaaaa=take 0;aaaaaa=take 0;", NONE);
        Due.fault("aaaaaa=take 0;b=turn aaaaa;", 21);
    }

    private static void wordsAreNotThoseOfTheForms() {
        String all = "take mark cut from to turn speed splice angle loop for echo after by copy on filter fade in out gain"
                + " put at again";
        String[] words = all.split(" ");
        Due.is("the words that W can't be", words.length, 24);
        for (String word : words) {
            boolean begins = word.equals("put") || word.equals("again");
            Due.fault(word + "=take 0;", begins ? word.length() : 0);
            Due.fault(TAKE + "b=turn " + word + ";", 18);
            Due.fault(TAKE + "put " + word + " at 0 on 0;", 15);
            Due.fault(word.substring(1) + "x=take 0;", NONE);
            if (word.length() < 6) Due.fault(word + "x=take 0;", NONE);
        }
    }

    private static void aWordAheadOfItsSignIsNew() {
        Due.fault(TAKE + "a = take 0;", 11);
        Due.fault(TAKE + "b = turn a; b = turn a;", 23);
        Due.fault(TAKE + "b = turn a; a = turn b;", 23);
        Due.fault(TAKE + "a", 11);
    }

    private static void anyOtherWordStandsAhead() {
        Due.fault("b = turn b;", 9);
        Due.fault("b = turn a; a = take 0;", 9);
        Due.fault("put a at 0 on 0;", 4);
        Due.fault("again 1 by 0 { put a at 0 on 0; }", 19);
        Due.fault(TAKE + "b = splice b a angle 0;", 22);
        Due.fault(TAKE + "b = splice a b angle 0;", 24);
        Due.fault(TAKE + "put b at 0 on 0; b = take 0;", 15);
    }

    private static void bounds(String ahead, String behind, int least, int most) {
        int place = ahead.length();
        Due.fault(ahead + least + behind, NONE);
        Due.fault(ahead + most + behind, NONE);
        Due.fault(ahead + (most + 1) + behind, place);
        if (least == 1) Due.fault(ahead + 0 + behind, place);
        Due.fault(ahead + "-1" + behind, place);
    }

    private static void sourcesAreInTheirBounds() {
        bounds("a = take ", ";", 0, 99);
        bounds("a = mark ", ";", 0, 999);
    }

    private static void rowsAreInTheirBounds() {
        bounds(TAKE + "b = cut a from ", " to 1500;", 0, 1500);
        bounds(TAKE + "b = cut a from 0 to ", ";", 0, 1500);
        bounds(TAKE + "b = speed a ", " / 8;", 1, 8);
        bounds(TAKE + "b = speed a 8 / ", ";", 1, 8);
        bounds(TAKE + "b = splice a a angle ", ";", 0, 40);
        bounds(TAKE + "b = loop a for ", ";", 0, 1500);
        bounds(TAKE + "b = echo a after ", " by 255;", 1, 500);
        bounds(TAKE + "b = echo a after 500 by ", ";", 0, 255);
        bounds(TAKE + "b = copy a on ", ";", 0, 3);
        bounds(TAKE + "b = filter a ", " 128 128;", 0, 128);
        bounds(TAKE + "b = filter a 128 ", " 128;", 0, 128);
        bounds(TAKE + "b = filter a 128 128 ", ";", 0, 128);
        bounds(TAKE + "b = fade a in ", " out 1500;", 0, 1500);
        bounds(TAKE + "b = fade a in 1500 out ", ";", 0, 1500);
        bounds(TAKE + "b = gain a ", ";", 0, 128);
    }

    private static void putsAreInTheirBounds() {
        bounds(TAKE + "put a at ", " on 15;", 0, 1500);
        bounds(TAKE + "put a at 1500 on ", ";", 0, 15);
        bounds(TAKE + "again ", " by 999 { put a at 0 on 0; }", 1, 9);
        bounds(TAKE + "again 9 by ", " { put a at 0 on 0; }", 0, 999);
        bounds(TAKE + "again 9 by 999 { put a at ", " on 15; }", 0, 1500);
        bounds(TAKE + "again 9 by 999 { put a at 1500 on ", "; }", 0, 15);
    }

    private static void numbersOfManyDigits() {
        String[] numbers = {"2147483647", "2147483648", "4294967296", "4294967300", "18446744073709551616",
            "1000000000000000000000000", "9".repeat(1000)};
        for (String number : numbers) {
            Due.fault("a = take " + number + ";", 9);
            Due.fault(TAKE + "b = speed a " + number + " / 1;", 23);
        }
        Due.fault("a = take " + "0".repeat(1180) + "7;", NONE);
    }

    private static String puts(int orders) {
        StringBuilder text = new StringBuilder("a=take 0;");
        for (int i = 1; i < orders; i++) text.append("put a at 0 on 0;");
        return text.toString();
    }

    private static void ordersAreNoneTo40() {
        TapeStudio x = new TapeStudio();
        Due.is("a TEXT is ORDERS, none to 40: 40", Due.score(x, puts(40)), 0);
        Due.is("43: how many", x.count(20), 40);
        int n = puts(40).length();
        Due.fault(puts(41), n);
        Due.fault(puts(40) + "\n b = take 0;", n + 2);
        Due.fault(puts(40) + "x", n);
        Due.fault(puts(40) + "again", n + 5);
        Due.fault(puts(40) + " \n", NONE);
        StringBuilder makings = new StringBuilder();
        for (int i = 0; i < 40; i++) makings.append((char) ('a' + i % 26)).append(i < 26 ? "" : "x").append("=take 0;");
        Due.fault(makings.toString(), NONE);
        Due.fault(makings + "zz=take 0;", makings.length());
    }

    private static void inAgainEachPutCounts() {
        int n = puts(39).length();
        Due.fault(puts(39) + "again 9 by 9 { put a at 0 on 0; }", NONE);
        Due.fault(puts(39) + "again 9 by 9 { put a at 0 on 0; put a at 0 on 0; }", n + 32);
        Due.fault(puts(40) + "again 9 by 9 { put a at 0 on 0; }", puts(40).length() + 15);
        StringBuilder lot = new StringBuilder("a=take 0;again 2 by 3{");
        for (int i = 0; i < 39; i++) lot.append("put a at 0 on 0;");
        TapeStudio x = new TapeStudio();
        Due.is("each put counts as an ORDER, again is none: 39 in it", Due.score(x, lot + "}"), 0);
        Due.is("43: 40 with take", x.count(20), 40);
        Due.fault(lot + "put a at 0 on 0;}", lot.length());
    }

    private static void onePutAtLeastIsInAgain() {
        Due.fault(TAKE + "again 1 by 0 { put a at 0 on 0; }", NONE);
        Due.fault(TAKE + "again 1 by 0 { put a at 0 on 0; put a at 0 on 0; }", NONE);
        Due.fault(TAKE + "again 1 by 0 { }", 26);
        Due.fault(TAKE + "again 1 by 0 { ; }", 26);
        Due.fault(TAKE + "again 1 by 0 { b = turn a; }", 26);
        Due.fault(TAKE + "again 1 by 0 { again 1 by 0 { put a at 0 on 0; } }", 26);
    }

    private static void eachOrderIsEndedButAgain() {
        Due.fault("a = take 0", 10);
        Due.fault("a = take 0 b = take 0;", 11);
        Due.fault(TAKE + "put a at 0 on 0", 26);
        Due.fault(TAKE + "again 1 by 0 { put a at 0 on 0 }", 42);
        Due.fault(TAKE + "again 1 by 0 { put a at 0 on 0; };", 44);
        Due.fault(TAKE + ";", 11);
        Due.fault(";", 0);
    }

    private static void whatEndsTooEarly() {
        String[] orders = {"b = take 0 ; ", "b = mark 0 ; ", "b = cut a from 0 to 1 ; ", "b = turn a ; ", "b = speed a 1 / 2 ; ",
            "b = splice a a angle 1 ; ", "b = loop a for 3 ; ", "b = echo a after 1 by 2 ; ", "b = copy a on 1 ; ",
            "b = filter a 1 2 3 ; ", "b = fade a in 1 out 2 ; ", "b = gain a 1 ; ", "put a at 1 on 1 ; ",
            "again 1 by 2 { put a at 1 on 1 ; } "};
        for (String order : orders) {
            String whole = TAKE + order;
            for (int n = TAKE.length() + 1; n <= whole.length(); n++) {
                // ends within a word are words of their own
                if (whole.charAt(n - 1) != ' ') continue;
                Due.fault(whole.substring(0, n), n >= whole.length() ? NONE : n);
                Due.fault(whole.substring(0, n - 1), n >= whole.length() ? NONE : n - 1);
            }
        }
    }

    private static void scoresAreAtMost8() {
        Refused.Calls eight = x -> {
            Due.strip(x, 1, 2, 3);
            for (int i = 0; i < 8; i++) Due.is("25: its number", Due.score(x, TAKE + "put a at " + i + " on 0;"), i);
            x.make(7, 0);
            Due.text(x, TAKE);
        };
        Refused.none("25: NONE if 8 came", eight, x -> x.score());
        TapeStudio x = new TapeStudio();
        eight.on(x);
        Due.is("26: the first is there", x.make(0, 0), 3);
        Due.is("26: the eighth is there", x.make(7, 0), 10);
        Due.is("43: SCORES", x.count(6), 8);
        Due.is("43: the eighth", x.count(27), 2);
        Due.is("43: a ninth", x.count(28), NONE);
    }

    private static void aFaultLeavesTheText() {
        Refused.none("25: NONE with a FAULT (it stays)", x -> Due.text(x, TAKE + "b"), x -> x.score());
        TapeStudio x = new TapeStudio();
        Due.text(x, TAKE + "b");
        Due.is("25: refused", x.score(), NONE);
        Due.yes("25: it stays", x.end(11));
        Due.is("25: and can be mended", x.score(), 0);
        Due.is("25: the TEXT is empty then", x.count(7), 0);
        Due.is("25: and comes as an empty one", x.score(), 1);
    }
}
