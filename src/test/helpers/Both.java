import java.util.ArrayList;
import java.util.List;

/** One TapeStudio and one Model that get the same calls; tells the first call on which they differ. */
final class Both {
    final TapeStudio studio = new TapeStudio();
    final Model model = new Model();
    final List<String> calls = new ArrayList<>();
    String difference;

    int call(String name, int... a) {
        long got = answer(name, a);
        long due = modelAnswer(name, a);
        StringBuilder call = new StringBuilder(name).append('(');
        for (int i = 0; i < a.length; i++) call.append(i == 0 ? "" : ", ").append(a[i]);
        calls.add(call.append(") = ").append(due).toString());
        if (got != due && difference == null) {
            difference = "call " + calls.size() + ": " + call + " is due, answered " + got;
        }
        return (int) got;
    }

    /** Feeds a text behind what is there and cuts the last feed's filling away. */
    void text(String text) {
        int before = call("count", 7);
        for (int i = 0; i < text.length(); i += 20) {
            int[] five = new int[5];
            for (int k = 0; k < 20; k++) {
                int sign = i + k < text.length() ? text.charAt(i + k) & 255 : ' ';
                five[k / 4] = five[k / 4] << 8 | sign;
            }
            call("feed", five);
        }
        call("end", before + text.length());
    }

    private static long bit(boolean yes) { return yes ? 1 : 0; }

    private long answer(String name, int[] a) {
        TapeStudio x = studio;
        switch (name) {
            case "hand": return x.hand(a[0], a[1], a[2], a[3], a[4]);
            case "drop": return x.drop();
            case "strip": return x.strip(a[0]);
            case "sliver": return bit(x.sliver(a[0]));
            case "cut": return x.cut(a[0], a[1]);
            case "turn": return x.turn(a[0]);
            case "loop": return x.loop(a[0]);
            case "seam": return x.seam(a[0]);
            case "splice": return x.splice(a[0], a[1], a[2]);
            case "machine": return x.machine(a[0], a[1], a[2]);
            case "copy": return x.copy(a[0], a[1]);
            case "speed": return x.speed(a[0], a[1], a[2], a[3]);
            case "lose": return bit(x.lose(a[0]));
            case "hang": return bit(x.hang(a[0], a[1]));
            case "nail": return x.nail(a[0]);
            case "read": return bit(x.read(a[0], a[1]));
            case "marked": return x.marked(a[0], a[1]);
            case "go": return x.go(a[0]);
            case "sample": return x.sample(a[0], a[1]);
            case "told": return x.told(a[0], a[1]);
            case "feed": return x.feed(a[0], a[1], a[2], a[3], a[4]);
            case "end": return bit(x.end(a[0]));
            case "fault": return x.fault();
            case "score": return x.score();
            case "make": return x.make(a[0], a[1]);
            case "fails": return x.fails(a[0], a[1]);
            case "out": return x.out(a[0]);
            case "why": return x.why(a[0], a[1]);
            case "lead": return x.lead(a[0], a[1], a[2]);
            case "quarrel": return x.quarrel(a[0]);
            case "open": return x.open(a[0]);
            case "turns": return x.turns(a[0]);
            case "turnOf": return x.turnOf(a[0], a[1]);
            case "deep": return x.deep(a[0]);
            case "tape": return x.tape(a[0]);
            case "wipe": return x.wipe();
            case "near": return x.near(a[0], a[1], a[2], a[3]);
            case "rivals": return x.rivals(a[0], a[1], a[2]);
            case "remade": return x.remade(a[0], a[1]);
            case "stretch": return x.stretch(a[0], a[1], a[2]);
            case "unfound": return x.unfound(a[0], a[1]);
            case "count": return x.count(a[0]);
            default: throw new IllegalArgumentException(name);
        }
    }

    private long modelAnswer(String name, int[] a) {
        Model x = model;
        switch (name) {
            case "hand": return x.hand(a);
            case "drop": return x.drop();
            case "strip": return x.strip(a[0]);
            case "sliver": return bit(x.sliver(a[0]));
            case "cut": return x.cut(a[0], a[1]);
            case "turn": return x.turn(a[0]);
            case "loop": return x.loop(a[0]);
            case "seam": return x.seam(a[0]);
            case "splice": return x.splice(a[0], a[1], a[2]);
            case "machine": return x.machine(a[0], a[1], a[2]);
            case "copy": return x.copy(a[0], a[1]);
            case "speed": return x.speed(a[0], a[1], a[2], a[3]);
            case "lose": return bit(x.lose(a[0]));
            case "hang": return bit(x.hang(a[0], a[1]));
            case "nail": return x.nail(a[0]);
            case "read": return bit(x.read(a[0], a[1]));
            case "marked": return x.marked(a[0], a[1]);
            case "go": return x.go(a[0]);
            case "sample": return x.sample(a[0], a[1]);
            case "told": return x.told(a[0], a[1]);
            case "feed": return x.feed(a);
            case "end": return bit(x.end(a[0]));
            case "fault": return x.fault();
            case "score": return x.score();
            case "make": return x.make(a[0], a[1]);
            case "fails": return x.fails(a[0], a[1]);
            case "out": return x.out(a[0]);
            case "why": return x.why(a[0], a[1]);
            case "lead": return x.lead(a[0], a[1], a[2]);
            case "quarrel": return x.quarrel(a[0]);
            case "open": return x.open(a[0]);
            case "turns": return x.turns(a[0]);
            case "turnOf": return x.turnOf(a[0], a[1]);
            case "deep": return x.deep(a[0]);
            case "tape": return x.tape(a[0]);
            case "wipe": return x.wipe();
            case "near": return x.near(a[0], a[1], a[2], a[3]);
            case "rivals": return x.rivals(a[0], a[1], a[2]);
            case "remade": return x.remade(a[0], a[1]);
            case "stretch": return x.stretch(a[0], a[1], a[2]);
            case "unfound": return x.unfound(a[0], a[1]);
            case "count": return x.count(a[0]);
            default: throw new IllegalArgumentException(name);
        }
    }
}
