import java.util.ArrayList;
import java.util.List;
import java.util.Random;
import java.util.TreeMap;

/** Runs of made-up calls, the same ones at each time, on the program and on the Model. */
public final class FuzzTest {
    private static final int MOST_CALLS = 512;

    private final Random random;
    private final Both both = new Both();
    private final int spread;

    private FuzzTest(int seed) {
        random = new Random(seed);
        spread = new int[] {2, 4, 20, 3000, 65536}[random.nextInt(5)];
    }

    private int below(int n) { return random.nextInt(n); }

    private boolean chance(int oneIn) { return below(oneIn) == 0; }

    private int pick(int... numbers) { return numbers[below(numbers.length)]; }

    private int wild() {
        return pick(-1, 0, 1, -2, 99, 100, 300, 1000, 65536, random.nextInt(), Integer.MAX_VALUE, Integer.MIN_VALUE,
                Integer.MAX_VALUE - 5, Integer.MIN_VALUE + 3, below(50) - 10);
    }

    /** A number that is mostly in its bounds. */
    private int of(int from, int to) { return chance(25) ? wild() : chance(12) ? pick(from - 1, from, to, to + 1)
            : from + below(to - from + 1); }

    private int strip() {
        int n = both.model.strips.size();
        return chance(2) ? of(Math.max(0, n - 6), Math.max(0, n - 1)) : of(0, Math.max(0, n - 1));
    }

    private int someScore() { return of(0, Math.max(0, both.model.scores.size() - 1)); }

    private int made() { return Math.max(1, both.model.last() == null ? 1 : both.model.last().piece.length); }

    private int day() { return chance(4) ? of(0, 400) : of(0, both.model.now); }

    private int pair() {
        int a = below(spread) - (spread > 20 ? spread / 2 : 0);
        int b = below(spread) - (spread > 20 ? spread / 2 : 0);
        return a << 16 | b & 0xffff;
    }

    private void hands() { for (int i = below(4); i >= 0; i--) both.call("hand", pair(), pair(), pair(), pair(), pair()); }

    // ---- texts ----

    private String number(int from, int to) {
        int n = chance(400) ? pick(from - 1, to + 1, 1501) : chance(15) ? pick(from, to) : from + below(to - from + 1);
        return (chance(60) ? "00" : "") + Math.max(0, n);
    }

    private String name(List<String> taken) {
        if (chance(200)) return pick(0, 1) == 0 ? "abcdefg" : "echo";
        StringBuilder name = new StringBuilder();
        for (int i = below(chance(4) ? 6 : 2); i >= 0; i--) name.append((char) ('a' + below(26)));
        boolean again = taken.contains(name.toString()) || Model.KEYWORDS.contains(name.toString());
        return again && !chance(20) ? name(taken) : name.toString();
    }

    private String known(List<String> names) { return names.isEmpty() || chance(300) ? name(names) : names.get(
            chance(2) ? names.size() - 1 : below(names.size())); }

    private String put(List<String> names, int far) {
        return "put " + known(names) + " at " + number(0, far) + " on " + number(0, chance(4) ? 15 : 1) + " ; ";
    }

    private int stripThere() {
        for (int i = 0; i < 20; i++) {
            int strip = below(Math.max(1, both.model.strips.size()));
            if (both.model.there(strip) != null) return strip;
        }
        return 0;
    }

    private String source(int marks) {
        int strip = stripThere();
        int mark = both.model.marked(strip, both.model.now);
        if (chance(8)) return chance(2) ? "take " + number(0, 99) : "mark " + number(0, marks);
        return mark == Model.NONE || chance(3) ? "take " + strip : "mark " + mark;
    }

    private String making(List<String> names, int marks) {
        String name = name(names);
        String w = known(names);
        String[] forms = {
            "cut " + w + " from " + number(0, 3) + " to " + number(3, chance(4) ? 12 : 5),
            "turn " + w,
            "speed " + w + " " + number(1, 8) + "/" + number(1, 8),
            "splice " + w + " " + known(names) + " angle " + number(0, chance(8) ? 40 : 3),
            "loop " + w + " for " + (chance(6) ? number(0, 1500) : number(1, 60)),
            "echo " + w + " after " + (chance(3) ? number(1, 500) : number(1, 6)) + " by " + number(0, 255),
            "copy " + w + " on " + number(0, chance(6) ? 3 : Math.max(0, both.model.machines.size() - 1)),
            "filter " + w + " " + number(0, 128) + " " + number(0, 128) + " " + number(0, 128),
            "fade " + w + " in " + number(0, chance(15) ? 1500 : 4) + " out " + number(0, chance(15) ? 1500 : 4),
            "gain " + w + " " + number(0, 128),
        };
        String made = names.isEmpty() || chance(4) ? source(marks) : forms[below(forms.length)];
        names.add(name);
        return name + " = " + made + (chance(8) ? ";" : " ;\n");
    }

    private String text() {
        StringBuilder text = new StringBuilder();
        List<String> names = new ArrayList<>();
        int orders = chance(12) ? 38 + below(6) : 3 + below(chance(2) ? 6 : 18);
        int far = chance(6) ? 1500 : 30;
        for (int i = 0; i < orders; i++) {
            if (names.isEmpty() || below(5) < 3) {
                text.append(making(names, 4));
            } else if (chance(3)) {
                text.append("again " + number(1, 9) + " by " + number(0, chance(5) ? 999 : 20) + " { ");
                for (int k = below(3); k >= 0; k--) text.append(put(names, far));
                text.append("} ");
            } else {
                text.append(put(names, far));
            }
        }
        if (chance(12)) text.setCharAt(below(text.length()), " ;=/{}az09A\n\t\u00e9".charAt(below(14)));
        if (chance(12)) text.setLength(below(text.length()));
        if (chance(20)) text.insert(below(text.length() + 1), pick(0, 1) == 0 ? " ; " : " put ");
        return text.length() > 1200 ? text.substring(0, 1200) : text.toString();
    }

    // ---- calls ----

    private void stripCalls() {
        switch (below(22)) {
            case 0: case 1: case 2: hands(); both.call("strip", of(1, Math.max(1, Math.min(12, both.model.hand.size()))));
                break;
            case 3: both.call("strip", of(1, Math.max(1, both.model.hand.size()))); break;
            case 4: both.call("drop"); break;
            case 5: both.call("sliver", of(0, chance(2) ? 9 : 1)); break;
            case 6: both.call("cut", strip(), of(1, 8)); break;
            case 7: both.call("turn", strip()); break;
            case 8: both.call("loop", strip()); both.call("seam", strip()); break;
            case 9: both.call("seam", both.model.strips.size() - 1); break;
            case 10: case 11: both.call("splice", strip(), strip(), of(0, chance(3) ? 20 : 3)); break;
            case 12: both.call("machine", of(0, 100) * 1000 + of(0, 128), of(0, 100), of(0, 200)); break;
            case 13: both.call("copy", strip(), of(0, 3)); break;
            case 14: both.call("speed", strip(), of(0, Math.max(0, both.model.machines.size() - 1)), of(1, 8), of(1, 8));
                break;
            case 15: if (chance(3)) both.call("lose", strip()); break;
            case 16: both.call("hang", strip(), of(-1, chance(2) ? 29 : 2)); break;
            case 17: both.call("nail", of(0, chance(2) ? 29 : 2)); break;
            case 18: both.call("read", strip(), of(0, chance(4) ? 999 : 4)); break;
            case 19: both.call("marked", strip(), day()); break;
            case 20: both.call("go", chance(4) ? of(0, 100) : of(0, 3)); break;
            default: look(strip()); break;
        }
    }

    private void look(int strip) {
        for (int what = -1; what <= 11; what++) if (chance(2)) both.call("told", strip, what);
        both.call("sample", strip, of(0, 12));
        both.call("sample", strip, both.model.any(strip) == null ? 0 : both.model.any(strip).row.length - 1);
    }

    private void scoreCalls() {
        int score = someScore();
        switch (below(14)) {
            case 0: case 1: writeScore(); break;
            case 2: case 3: if (both.call("make", score, day()) != Model.NONE) heard(); break;
            case 4: both.call("fails", score, day()); break;
            case 5: if (both.model.last() != null) heard(); break;
            case 6: both.call("open", score); break;
            case 7: case 8: work(score); break;
            case 9: both.call("deep", score); break;
            case 10: for (int i = 0; i < 4; i++) both.call("quarrel", of(i, i)); break;
            case 11: both.call("read", strip(), of(0, 4)); both.call("open", score); break;
            case 12: both.call("go", of(0, 2)); break;
            default: both.call("count", of(-1, 29)); break;
        }
    }

    private void work(int score) {
        if (both.call("turns", score) == Model.NONE) return;
        for (int i = 0; i < both.model.scores.get(score).size(); i++) both.call("turnOf", score, i);
    }

    private void writeScore() {
        if (both.calls.size() + 70 > MOST_CALLS) return;
        if (chance(2)) both.call("end", 0);
        both.text(text());
        both.call("fault");
        if (both.call("score") != Model.NONE) {
            both.call("make", both.model.scores.size() - 1, both.model.now);
            both.call("fails", both.model.scores.size() - 1, both.model.now);
            heard();
        }
    }

    private void heard() {
        for (int i = 0; i < 4; i++) {
            int t = chance(2) ? below(Math.min(40, made())) : of(0, made() - 1);
            both.call("out", t);
            both.call("why", t, of(0, 3));
            both.call("why", t, of(0, 3));
            int track = both.model.last() == null || both.model.last().layings.isEmpty() || chance(4) ? of(0, 2)
                    : both.model.last().layings.get(below(both.model.last().layings.size())).track;
            for (int what = 0; what < 3; what++) both.call("lead", t, track, what);
        }
        both.call("quarrel", of(0, 2));
    }

    private void tapeCalls() {
        int w = chance(3) ? of(1, 100) : of(1, 4);
        int m = chance(3) ? of(0, 65535) : below(Math.max(2, spread / 6));
        int t = of(0, Math.max(0, both.model.tape.size() - 1));
        switch (below(9)) {
            case 0: case 1: hands(); both.call("tape", of(1, Math.max(1, Math.min(25, both.model.hand.size())))); break;
            case 2: if (chance(4)) both.call("wipe"); break;
            case 3: case 4: for (int what = 0; what < 4; what++) both.call("near", t, w, m, what); break;
            case 5: both.call("rivals", t, w, m); break;
            case 6: both.call("remade", w, m);
                for (int k = 0; k < 5; k++) both.call("stretch", w, m, of(k, k));
                break;
            case 7: both.call("unfound", w, m); break;
            default: stripOfTape(); break;
        }
    }

    /** A strip that is near to a part of the tape, so that something fits. */
    private void stripOfTape() {
        int size = both.model.tape.size();
        if (size == 0) return;
        both.call("drop");
        int[] five = new int[5];
        int from = below(size);
        boolean back = chance(3);
        for (int i = 0; i < 10; i++) {
            int t = Math.max(0, Math.min(size - 1, back ? from - i : from + i));
            int sample = Model.clip(both.model.tape.get(t) + (chance(8) ? 1 : 0));
            five[i / 2] |= (sample & 0xffff) << (i % 2 == 0 ? 16 : 0);
        }
        both.call("hand", five);
        both.call("strip", of(2, 10));
    }

    private void anyCall() {
        for (String name : new String[] {"strip", "sliver", "turn", "loop", "seam", "nail", "go", "out", "quarrel", "open",
            "turns", "deep", "count", "tape", "end"}) if (chance(15)) both.call(name, wild());
        for (String name : new String[] {"cut", "copy", "hang", "read", "marked", "sample", "told", "make", "fails", "why",
            "turnOf", "remade", "unfound"}) if (chance(15)) both.call(name, wild(), wild());
        for (String name : new String[] {"splice", "machine", "lead", "rivals", "stretch"}) {
            if (chance(10)) both.call(name, wild(), wild(), wild());
        }
        if (chance(4)) both.call("speed", wild(), wild(), wild(), wild());
        if (chance(4)) both.call("near", wild(), wild(), wild(), wild());
    }

    private void run() {
        int taste = below(4);
        int startStrips = below(8);
        for (int i = 0; i < startStrips; i++) {
            hands();
            both.call("strip", of(1, 12));
            both.call("read", i, below(5));
        }
        for (int i = below(4); i > 0; i--) both.call("machine", of(0, 100) * 1000 + of(0, 128), of(0, 100), of(0, 200));
        while (both.calls.size() < MOST_CALLS - 80) {
            int what = below(10);
            if (what < 1) anyCall();
            else if (what < 5) stripCalls();
            else if (taste == 0 || what < 6) stripCalls();
            else if (taste == 1 || taste == 3 && chance(2)) scoreCalls();
            else tapeCalls();
        }
        for (int what = 0; what <= 28; what++) both.call("count", what);
    }

    public static void main(String[] args) {
        int runs = args.length > 0 ? Integer.parseInt(args[0]) : 1500;
        int first = args.length > 1 ? Integer.parseInt(args[1]) : 0;
        TreeMap<String, Integer> answered = new TreeMap<>();
        for (int seed = first; seed < first + runs; seed++) {
            FuzzTest test = new FuzzTest(seed);
            test.run();
            for (String call : test.both.calls) {
                String name = call.substring(0, call.indexOf('('));
                boolean refused = call.endsWith("= -1") || call.endsWith("= -2147483648");
                answered.merge(name + (refused ? " (none)" : ""), 1, Integer::sum);
            }
            if (test.both.difference != null) {
                System.out.println("seed " + seed + ", " + test.both.difference);
                for (String call : test.both.calls) if (args.length > 0) System.out.println("  " + call);
                System.exit(1);
            }
        }
        if (args.length > 0) System.out.println(answered);
        System.out.println(runs + " runs are as due");
    }
}
