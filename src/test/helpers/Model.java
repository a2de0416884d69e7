import java.util.ArrayList;
import java.util.Arrays;
import java.util.HashMap;
import java.util.HashSet;
import java.util.LinkedHashMap;
import java.util.List;
import java.util.Map;
import java.util.Set;
import java.util.TreeSet;

/**
 * A second TapeStudio, told from the document alone and as slowly as its words go: with lists, sets, exceptions and
 * brute force. FuzzTest compares the program with it.
 */
final class Model {
    static final int NONE = -1;
    static final int NO_SAMPLE = Integer.MIN_VALUE;

    static final class S {
        int kind, how, generation, hiss, wear, nail = NONE, day, one = NONE, other = NONE, begin;
        int[] row;
    }

    static final class Fault extends RuntimeException {
        final int place;
        Fault(int place) { this.place = place; }
    }

    static final class Fails extends RuntimeException { }

    static final class Order {
        String verb, name;
        Order one, other;
        int number, times = 1, later;
        List<Integer> n = new ArrayList<>();
    }

    static final class Laying {
        Order order;
        int track, from, to;
    }

    /** What playing a score gives. */
    static final class Played {
        Map<Order, int[]> rows = new LinkedHashMap<>();
        Map<Order, Integer> strips = new HashMap<>();
        List<Laying> layings = new ArrayList<>();
        int[] piece;
        int fails = NONE;
    }

    final List<S> strips = new ArrayList<>();
    final List<int[]> machines = new ArrayList<>();
    final List<int[]> readings = new ArrayList<>();
    List<Integer> hand = new ArrayList<>();
    List<Integer> tape = new ArrayList<>();
    List<Integer> text = new ArrayList<>();
    final List<List<Order>> scores = new ArrayList<>();
    final Map<Integer, Played> madeLast = new HashMap<>();
    int lastMade = NONE;
    int now, sliver;

    // ---- strips ----

    int hand(int... five) {
        if (hand.size() + 10 > 300) return NONE;
        for (int x : five) {
            hand.add((int) (short) (x >>> 16));
            hand.add((int) (short) (x & 0xffff));
        }
        return hand.size();
    }

    int drop() { int n = hand.size(); hand = new ArrayList<>(); return n; }

    int came() { int n = 0; for (S s : strips) n += s.row.length; return n; }

    S there(int n) { return n >= 0 && n < strips.size() && strips.get(n).how == 0 ? strips.get(n) : null; }

    S any(int n) { return n >= 0 && n < strips.size() ? strips.get(n) : null; }

    /** All of these come, or none. */
    int come(S... all) {
        int more = 0;
        for (S s : all) {
            if (s.row.length < 1 || s.row.length > 300) return NONE;
            more += s.row.length;
        }
        if (strips.size() + all.length > 100 || came() + more > 20000) return NONE;
        int first = strips.size();
        for (S s : all) { s.day = now; strips.add(s); }
        return first;
    }

    void use(S s) { s.how = 1; s.nail = NONE; }

    S of(S from, int kind, int[] row) {
        S s = new S();
        s.kind = kind;
        s.row = row;
        s.one = strips.indexOf(from);
        s.generation = from.generation;
        s.hiss = from.hiss;
        s.wear = from.wear;
        return s;
    }

    int strip(int n) {
        if (n < 1 || n > hand.size()) return NONE;
        S s = new S();
        s.row = ints(hand.subList(0, n));
        int number = come(s);
        if (number != NONE) hand = new ArrayList<>(hand.subList(n, hand.size()));
        return number;
    }

    boolean sliver(int n) { if (n < 0 || n > 9) return false; sliver = n; return true; }

    int cut(int strip, int at) {
        S s = there(strip);
        if (s == null || at < 1 || at > s.row.length - 1 || s.row.length - at - sliver < 1) return NONE;
        S a = of(s, 1, Arrays.copyOfRange(s.row, 0, at));
        S b = of(s, 1, Arrays.copyOfRange(s.row, at + sliver, s.row.length));
        b.begin = at + sliver;
        int first = come(a, b);
        if (first != NONE) use(s);
        return first;
    }

    int turn(int strip) {
        S s = there(strip);
        if (s == null || s.kind == 3) return NONE;
        int n = come(of(s, 2, turned(s.row)));
        if (n != NONE) use(s);
        return n;
    }

    int loop(int strip) {
        S s = there(strip);
        if (s == null || s.kind == 3) return NONE;
        int n = come(of(s, 3, s.row.clone()));
        if (n != NONE) use(s);
        return n;
    }

    int seam(int strip) {
        S s = any(strip);
        return s == null || s.kind != 3 ? NONE : Math.abs(s.row[0] - s.row[s.row.length - 1]);
    }

    int splice(int one, int other, int k) {
        S a = there(one), b = there(other);
        if (a == null || b == null || a == b || a.kind == 3 || b.kind == 3 || k < 0 || k > 20
                || k > a.row.length || k > b.row.length) return NONE;
        S s = of(a, 4, joined(a.row, b.row, k));
        s.other = other;
        s.generation = Math.max(a.generation, b.generation);
        s.hiss = Math.max(a.hiss, b.hiss);
        s.wear = Math.max(a.wear, b.wear);
        int n = come(s);
        if (n != NONE) { use(a); use(b); }
        return n;
    }

    int machine(int what, int hiss, int rough) {
        for (int drift = -50; drift <= 50; drift++) {
            int level = what - (drift + 50) * 1000;
            if (level >= 0 && level <= 128 && hiss >= 0 && hiss <= 100 && rough >= 0 && rough <= 200
                    && machines.size() < 4) {
                machines.add(new int[] {drift, level, hiss, rough});
                return machines.size() - 1;
            }
        }
        return NONE;
    }

    int[] machineOf(int m) { return m >= 0 && m < machines.size() ? machines.get(m) : null; }

    int byMachine(int strip, int machine, int kind, int p, int q) {
        S s = there(strip);
        int[] m = machineOf(machine);
        if (s == null || m == null || s.kind == 3 || s.wear == 1000) return NONE;
        int[] row = kind == 5 ? copied(s.row, m) : at(s.row, p, q);
        S came = of(s, kind, row);
        came.generation++;
        came.hiss = Math.min(1000, s.hiss + m[2]);
        came.wear = 0;
        int n = come(came);
        if (n != NONE) s.wear = Math.min(1000, s.wear + m[3]);
        return n;
    }

    int copy(int strip, int machine) { return byMachine(strip, machine, 5, 0, 0); }

    int speed(int strip, int machine, int p, int q) {
        return p < 1 || p > 8 || q < 1 || q > 8 ? NONE : byMachine(strip, machine, 6, p, q);
    }

    boolean lose(int strip) {
        S s = there(strip);
        if (s == null) return false;
        use(s);
        s.how = 2;
        return true;
    }

    boolean hang(int strip, int nail) {
        S s = there(strip);
        if (s == null || nail < -1 || nail > 29) return false;
        if (nail >= 0 && nail(nail) != NONE && nail(nail) != strip) return false;
        s.nail = nail;
        return true;
    }

    int nail(int nail) {
        if (nail < 0) return NONE;
        for (S s : strips) if (s.nail == nail) return strips.indexOf(s);
        return NONE;
    }

    boolean read(int strip, int mark) {
        if (any(strip) == null || mark < 0 || mark > 999 || readings.size() == 100) return false;
        readings.add(new int[] {strip, mark, now});
        return true;
    }

    int marked(int strip, int day) {
        int mark = NONE;
        for (int[] r : readings) if (r[0] == strip && r[2] <= day && day <= 400) mark = r[1];
        return mark;
    }

    int go(int n) {
        if (n < 0 || n > 100) return NONE;
        for (int i = 0; i < n && now < 400; i++) now++;
        return now;
    }

    int sample(int strip, int i) {
        S s = any(strip);
        return s == null || i < 0 || i >= s.row.length ? NO_SAMPLE : s.row[i];
    }

    int told(int strip, int what) {
        S s = any(strip);
        if (s == null || what < 0 || what > 10) return NONE;
        return new int[] {s.kind, s.how, s.row.length, s.generation, s.hiss, s.wear, s.nail, s.day, s.one, s.other,
            s.begin}[what];
    }

    // ---- rows ----

    static int[] ints(List<Integer> list) { return list.stream().mapToInt(x -> x).toArray(); }

    static int clip(long x) { return x > 32767 ? 32767 : x < -32768 ? -32768 : (int) x; }

    static int[] turned(int[] row) {
        int[] out = new int[row.length];
        for (int i = 0; i < row.length; i++) out[row.length - 1 - i] = row[i];
        return out;
    }

    static int[] joined(int[] a, int[] b, int k) {
        List<Integer> out = new ArrayList<>();
        for (int i = 0; i < a.length - k; i++) out.add(a[i]);
        for (int i = 0; i < k; i++) {
            out.add((a[a.length - k + i] * (k - i) + b[i] * (i + 1)) / (k + 1));
        }
        for (int i = k; i < b.length; i++) out.add(b[i]);
        return ints(out);
    }

    static int[] at(int[] row, int p, int q) {
        List<Integer> out = new ArrayList<>();
        int size = (row.length - 1) * q / p + 1;
        for (int i = 0; i < size; i++) {
            int place = i * p / q, rest = i * p - place * q;
            int x = row[place];
            if (place < row.length - 1) x += rest * (row[place + 1] - row[place]) / q;
            out.add(x);
        }
        return ints(out);
    }

    static int[] times(int[] row, int n, int by) {
        return Arrays.stream(row).map(x -> clip((long) x * n / by)).toArray();
    }

    static int[] copied(int[] row, int[] m) { return times(at(row, 1000 + m[0], 1000), m[1], 64); }

    // ---- text ----

    int feed(int... five) {
        if (text.size() + 20 > 1200) return NONE;
        for (int x : five) for (int shift = 24; shift >= 0; shift -= 8) text.add(x >>> shift & 255);
        return text.size();
    }

    boolean end(int n) {
        if (n < 0 || n > text.size()) return false;
        text = new ArrayList<>(text.subList(0, n));
        return true;
    }

    static final Set<String> KEYWORDS = new HashSet<>(Arrays.asList(("take mark cut from to turn speed splice angle"
            + " loop for echo after by copy on filter fade in out gain put at again").split(" ")));

    static final Set<String> VERBS = new HashSet<>(Arrays.asList(
            "take mark cut turn speed splice loop echo copy filter fade gain".split(" ")));

    /** The text's tokens, made as they are asked for. */
    final class Tokens {
        final StringBuilder all = new StringBuilder();
        int place;

        Tokens() { for (int b : text) all.append((char) b); }

        void blanks() { while (place < all.length() && " \n".indexOf(all.charAt(place)) >= 0) place++; }

        boolean over() { blanks(); return place == all.length(); }

        /** The next token; it stays next. Empty at the end. */
        String peek() {
            if (over()) return "";
            String rest = all.substring(place);
            for (String form : new String[] {"[a-z]+", "[0-9]+", "[=;/{}]"}) {
                java.util.regex.Matcher m = java.util.regex.Pattern.compile(form).matcher(rest);
                if (m.lookingAt()) return m.group();
            }
            throw new Fault(place);
        }

        void stop() { throw new Fault(place); }

        void want(String... tokens) {
            for (String token : tokens) {
                if (!peek().equals(token)) stop();
                place += token.length();
            }
        }

        int number(int least, int most) {
            String token = peek();
            if (!token.matches("[0-9]+")) stop();
            java.math.BigInteger n = new java.math.BigInteger(token);
            if (n.compareTo(java.math.BigInteger.valueOf(least)) < 0
                    || n.compareTo(java.math.BigInteger.valueOf(most)) > 0) stop();
            place += token.length();
            return n.intValue();
        }

        String name() {
            String token = peek();
            if (!token.matches("[a-z]{1,6}") || KEYWORDS.contains(token)) stop();
            return token;
        }
    }

    List<Order> parse() {
        Tokens in = new Tokens();
        List<Order> orders = new ArrayList<>();
        while (!in.over()) {
            if (in.peek().equals("again")) {
                in.want("again");
                int times = in.number(1, 9);
                in.want("by");
                int later = in.number(0, 999);
                in.want("{");
                do {
                    Order put = put(in, orders);
                    put.times = times;
                    put.later = later;
                } while (!in.peek().equals("}"));
                in.want("}");
            } else if (in.peek().equals("put")) {
                put(in, orders);
            } else {
                making(in, orders);
            }
        }
        return orders;
    }

    static Order known(Tokens in, List<Order> orders) {
        String name = in.name();
        for (Order o : orders) {
            if (name.equals(o.name)) {
                in.place += name.length();
                return o;
            }
        }
        in.stop();
        return null;
    }

    static Order begin(Tokens in, List<Order> orders) {
        if (orders.size() == 40) { in.peek(); in.stop(); }
        Order o = new Order();
        o.number = orders.size();
        return o;
    }

    static Order put(Tokens in, List<Order> orders) {
        Order o = begin(in, orders);
        in.want("put");
        o.verb = "put";
        o.one = known(in, orders);
        in.want("at");
        o.n.add(in.number(0, 1500));
        in.want("on");
        o.n.add(in.number(0, 15));
        in.want(";");
        orders.add(o);
        return o;
    }

    static void making(Tokens in, List<Order> orders) {
        Order o = begin(in, orders);
        o.name = in.name();
        for (Order ahead : orders) if (o.name.equals(ahead.name)) in.stop();
        in.place += o.name.length();
        in.want("=");
        o.verb = in.peek();
        if (!VERBS.contains(o.verb)) in.stop();
        in.want(o.verb);
        if (o.verb.equals("take")) o.n.add(in.number(0, 99));
        else if (o.verb.equals("mark")) o.n.add(in.number(0, 999));
        else o.one = known(in, orders);
        switch (o.verb) {
            case "cut": in.want("from"); o.n.add(in.number(0, 1500)); in.want("to"); o.n.add(in.number(0, 1500)); break;
            case "speed": o.n.add(in.number(1, 8)); in.want("/"); o.n.add(in.number(1, 8)); break;
            case "splice": o.other = known(in, orders); in.want("angle"); o.n.add(in.number(0, 40)); break;
            case "loop": in.want("for"); o.n.add(in.number(0, 1500)); break;
            case "echo": in.want("after"); o.n.add(in.number(1, 500)); in.want("by"); o.n.add(in.number(0, 255)); break;
            case "copy": in.want("on"); o.n.add(in.number(0, 3)); break;
            case "filter": for (int i = 0; i < 3; i++) o.n.add(in.number(0, 128)); break;
            case "fade": in.want("in"); o.n.add(in.number(0, 1500)); in.want("out"); o.n.add(in.number(0, 1500)); break;
            case "gain": o.n.add(in.number(0, 128)); break;
            default: break;
        }
        in.want(";");
        orders.add(o);
    }

    int fault() {
        try {
            parse();
            return NONE;
        } catch (Fault f) {
            return f.place;
        }
    }

    int score() {
        if (fault() != NONE || scores.size() == 8) return NONE;
        scores.add(parse());
        text = new ArrayList<>();
        return scores.size() - 1;
    }

    // ---- playing ----

    int leastMarked(int mark, int day) {
        for (int i = 0; i < strips.size(); i++) if (there(i) != null && marked(i, day) == mark) return i;
        return NONE;
    }

    Played play(List<Order> score, int day) {
        Played played = new Played();
        for (Order o : score) {
            try {
                if (o.verb.equals("put")) {
                    lay(o, played);
                } else {
                    int[] row = row(o, played, day);
                    if (row.length < 1 || row.length > 1500) throw new Fails();
                    played.rows.put(o, row);
                }
            } catch (Fails f) {
                played.fails = o.number;
                return played;
            }
        }
        int end = 0;
        for (Laying l : played.layings) end = Math.max(end, l.to);
        long[] sums = new long[end];
        for (Laying l : played.layings) {
            for (int t = l.from; t < l.to; t++) sums[t] += played.rows.get(l.order.one)[t - l.from];
        }
        played.piece = Arrays.stream(sums).mapToInt(Model::clip).toArray();
        return played;
    }

    void lay(Order o, Played played) {
        for (int i = 0; i < o.times; i++) {
            Laying l = new Laying();
            l.order = o;
            l.track = o.n.get(1);
            l.from = o.n.get(0) + i * o.later;
            l.to = l.from + played.rows.get(o.one).length;
            if (l.to > 3000) throw new Fails();
            played.layings.add(l);
        }
    }

    int[] row(Order o, Played played, int day) {
        int[] in = played.rows.get(o.one);
        int n = in == null ? 0 : in.length;
        int a = o.n.size() > 0 ? o.n.get(0) : 0, b = o.n.size() > 1 ? o.n.get(1) : 0;
        switch (o.verb) {
            case "take": case "mark": {
                int strip = o.verb.equals("take") ? a : leastMarked(a, day);
                if (there(strip) == null) throw new Fails();
                played.strips.put(o, strip);
                return there(strip).row;
            }
            case "cut":
                if (a >= b || b > n) throw new Fails();
                return Arrays.copyOfRange(in, a, b);
            case "turn": return turned(in);
            case "speed": return at(in, a, b);
            case "splice": {
                int[] other = played.rows.get(o.other);
                if (a > n || a > other.length) throw new Fails();
                return joined(in, other, a);
            }
            case "loop": {
                int[] out = new int[a];
                for (int i = 0; i < a; i++) out[i] = in[i % n];
                return out;
            }
            case "echo": {
                int[] out = in.clone();
                for (int i = a; i < n; i++) out[i] = clip(out[i] + out[i - a] * b / 256);
                return out;
            }
            case "copy":
                if (machineOf(a) == null) throw new Fails();
                return copied(in, machineOf(a));
            case "filter": {
                int[] out = new int[n];
                for (int i = 0; i < n; i++) {
                    long ahead = i == 0 ? 0 : in[i - 1], next = i == n - 1 ? 0 : in[i + 1];
                    out[i] = clip((ahead * a + (long) in[i] * b + next * o.n.get(2)) / 64);
                }
                return out;
            }
            case "fade": {
                if (a > n || b > n) throw new Fails();
                int[] out = in.clone();
                for (int i = 0; i < a; i++) out[i] = out[i] * i / a;
                for (int i = n - b; i < n; i++) out[i] = out[i] * (n - 1 - i) / b;
                return out;
            }
            default: return times(in, a, 64);
        }
    }

    List<Order> scoreOf(int n) { return n >= 0 && n < scores.size() ? scores.get(n) : null; }

    int make(int score, int day) {
        if (scoreOf(score) == null || day < 0 || day > now) return NONE;
        Played played = play(scoreOf(score), day);
        if (played.fails != NONE) return NONE;
        madeLast.put(score, played);
        lastMade = score;
        return played.piece.length;
    }

    int fails(int score, int day) {
        return scoreOf(score) == null || day < 0 || day > now ? NONE : play(scoreOf(score), day).fails;
    }

    Played last() { return madeLast.get(lastMade); }

    int out(int t) {
        return last() == null || t < 0 || t >= last().piece.length ? NO_SAMPLE : last().piece[t];
    }

    void gather(Order o, Set<Integer> found) {
        if (o == null) return;
        found.add(o.number);
        gather(o.one, found);
        gather(o.other, found);
    }

    int why(int t, int k) {
        if (last() == null) return NONE;
        Set<Integer> found = new TreeSet<>();
        for (Laying l : last().layings) if (t >= l.from && t < l.to) gather(l.order, found);
        return k < 0 || k >= found.size() ? NONE : new ArrayList<>(found).get(k);
    }

    int[] back(Order o, int i) {
        if (o.one == null) return new int[] {last().strips.get(o), i};
        int n = last().rows.get(o.one).length;
        switch (o.verb) {
            case "cut": return back(o.one, i + o.n.get(0));
            case "turn": return back(o.one, n - 1 - i);
            case "speed": return back(o.one, i * o.n.get(0) / o.n.get(1));
            case "copy": return back(o.one, i * (1000 + machineOf(o.n.get(0))[0]) / 1000);
            case "splice": return i < n ? back(o.one, i) : back(o.other, i - n + o.n.get(0));
            case "loop": return back(o.one, i % n);
            default: return back(o.one, i);
        }
    }

    int lead(int t, int track, int what) {
        if (last() == null) return NONE;
        for (Laying l : last().layings) {
            if (l.track == track && t >= l.from && t < l.to) {
                int[] found = back(l.order.one, t - l.from);
                return what == 0 ? l.order.number : what == 1 ? found[0] : what == 2 ? found[1] : NONE;
            }
        }
        return NONE;
    }

    int quarrel(int i) {
        if (last() == null) return NONE;
        Set<Integer> found = new TreeSet<>();
        List<Laying> all = last().layings;
        for (int a = 0; a < all.size(); a++) {
            for (int b = a + 1; b < all.size(); b++) {
                Laying x = all.get(a), y = all.get(b);
                boolean common = false;
                for (int t = x.from; t < x.to; t++) if (t >= y.from && t < y.to) common = true;
                if (common && x.track == y.track) {
                    found.add(Math.min(x.order.number, y.order.number) * 100 + Math.max(x.order.number, y.order.number));
                }
            }
        }
        return i < 0 || i >= found.size() ? NONE : new ArrayList<>(found).get(i);
    }

    int open(int score) {
        if (!madeLast.containsKey(score)) return NONE;
        Played then = madeLast.get(score), today = play(scoreOf(score), now);
        if (today.fails != NONE) return 1;
        for (Order o : scoreOf(score)) {
            if (o.verb.equals("mark") && !today.strips.get(o).equals(then.strips.get(o))) return 1;
        }
        return 0;
    }

    // ---- work ----

    static boolean isSource(Order o) { return o.verb.equals("take") || o.verb.equals("mark"); }

    List<Order> steps(List<Order> score) {
        List<Order> steps = new ArrayList<>();
        for (Order o : score) if (!isSource(o) && !o.verb.equals("put")) steps.add(o);
        return steps;
    }

    boolean canBeTurn(List<Order> steps, int done, int heap) {
        int bench = 0, others = 0;
        Set<Integer> told = new HashSet<>();
        for (int i = 0; i < steps.size(); i++) {
            if ((heap & 1 << i) == 0) continue;
            Order o = steps.get(i);
            for (Order made : new Order[] {o.one, o.other}) {
                if (made != null && !isSource(made) && (done & 1 << steps.indexOf(made)) == 0) return false;
            }
            if ("cut turn splice loop".contains(o.verb)) {
                bench++;
            } else {
                others++;
                if (o.verb.equals("copy") && (machineOf(o.n.get(0)) == null || !told.add(o.n.get(0)))) return false;
            }
        }
        return bench <= 1 && others <= machines.size();
    }

    /** Fewest turns from done on, by trying all heaps. */
    int fewest(List<Order> steps, int done, Map<Integer, Integer> known) {
        int all = (1 << steps.size()) - 1;
        if (done == all) return 0;
        if (known.containsKey(done)) return known.get(done);
        int best = 1000;
        for (int heap = 1; heap <= all; heap++) {
            if ((heap & done) == 0 && canBeTurn(steps, done, heap)) {
                best = Math.min(best, 1 + fewest(steps, done | heap, known));
            }
        }
        known.put(done, best);
        return best;
    }

    int turns(int score) {
        if (scoreOf(score) == null) return NONE;
        List<Order> steps = steps(scoreOf(score));
        if (steps.size() < 1 || steps.size() > 9) return NONE;
        int n = fewest(steps, 0, new HashMap<>());
        return n >= 1000 ? NONE : n;
    }

    int turnOf(int score, int order) {
        if (turns(score) == NONE || order < 0 || order >= scoreOf(score).size()) return NONE;
        List<Order> steps = steps(scoreOf(score));
        int step = steps.indexOf(scoreOf(score).get(order));
        if (step < 0) return NONE;
        Map<Integer, Integer> known = new HashMap<>();
        int done = 0;
        for (int turn = 1; ; turn++) {
            int heap = 1;
            while ((heap & done) != 0 || !canBeTurn(steps, done, heap)
                    || fewest(steps, done | heap, known) != fewest(steps, done, known) - 1) heap++;
            if ((heap & 1 << step) != 0) return turn;
            done |= heap;
        }
    }

    int depth(Order o) {
        if (o == null) return 0;
        if (isSource(o)) {
            S s = there(o.verb.equals("take") ? o.n.get(0) : leastMarked(o.n.get(0), now));
            return s == null ? 0 : s.generation;
        }
        int deeper = Arrays.asList("speed", "copy", "echo", "filter").contains(o.verb) ? 1 : 0;
        return deeper + Math.max(depth(o.one), depth(o.other));
    }

    int deep(int score) {
        int deepest = NONE;
        if (scoreOf(score) != null) {
            for (Order o : scoreOf(score)) if (o.verb.equals("put")) deepest = Math.max(deepest, depth(o.one));
        }
        return deepest;
    }

    // ---- tape ----

    int tape(int n) {
        if (n < 1 || n > hand.size() || tape.size() + n > 1000) return NONE;
        tape.addAll(hand.subList(0, n));
        hand = new ArrayList<>(hand.subList(n, hand.size()));
        return tape.size();
    }

    int wipe() { int n = tape.size(); tape = new ArrayList<>(); return n; }

    static int[] way(int[] row, int way) {
        return way == 0 ? row : way == 1 ? turned(row) : way == 2 ? at(row, 1, 2) : at(row, 2, 1);
    }

    /** How much a laying differs; NONE if it doesn't fit. */
    int differs(int[] row, int place, int t, int w, int m) {
        if (t < 0 || t + w > tape.size() || place + w > row.length) return NONE;
        int sum = 0;
        for (int i = 0; i < w; i++) {
            int d = Math.abs(tape.get(t + i) - row[place + i]);
            if (d > m) return NONE;
            sum += d;
        }
        return sum;
    }

    static boolean isAsked(int w, int m) { return w >= 1 && w <= 100 && m >= 0 && m <= 65535; }

    /** All that fit: strip, way, place, sum. */
    List<int[]> fitting(int t, int w, int m) {
        List<int[]> found = new ArrayList<>();
        if (!isAsked(w, m) || t < 0 || t > tape.size()) return found;
        for (int s = 0; s < strips.size(); s++) {
            if (strips.get(s).how == 2) continue;
            for (int way = 0; way < 4; way++) {
                int[] row = way(strips.get(s).row, way);
                for (int place = 0; place < row.length; place++) {
                    int sum = differs(row, place, t, w, m);
                    if (sum != NONE) found.add(new int[] {s, way, place, sum});
                }
            }
        }
        return found;
    }

    int near(int t, int w, int m, int what) {
        List<int[]> all = fitting(t, w, m);
        if (all.isEmpty() || what < 0 || what > 3) return NONE;
        int[] best = all.get(0);
        for (int[] one : all) if (one[3] < best[3]) best = one;
        return best[what];
    }

    int rivals(int t, int w, int m) { return fitting(t, w, m).size() - 1 < 0 ? NONE : fitting(t, w, m).size() - 1; }

    /** Whether some laying fits from t on over so many samples. */
    int longest(int t, int m) {
        int longest = 0;
        for (S s : strips) {
            if (s.how == 2) continue;
            for (int way = 0; way < 4; way++) {
                int[] row = way(s.row, way);
                for (int place = 0; place < row.length; place++) {
                    int n = 0;
                    while (t + n < tape.size() && place + n < row.length
                            && Math.abs(tape.get(t + n) - row[place + n]) <= m) n++;
                    longest = Math.max(longest, n);
                }
            }
        }
        return longest;
    }

    /** The begins of the stretches, each list compared with the best by its size and then by its lengths. */
    List<Integer> stretches(int w, int m) {
        if (!isAsked(w, m)) return null;
        int n = tape.size();
        List<List<Integer>> best = new ArrayList<>();
        for (int i = 0; i <= n; i++) best.add(null);
        best.set(n, new ArrayList<>());
        for (int t = n - 1; t >= 0; t--) {
            int longest = longest(t, m);
            for (int size = w; size <= longest; size++) {
                List<Integer> rest = best.get(t + size);
                if (rest == null) continue;
                List<Integer> sizes = new ArrayList<>();
                sizes.add(size);
                sizes.addAll(rest);
                if (best.get(t) == null || isBetter(sizes, best.get(t))) best.set(t, sizes);
            }
        }
        return best.get(0);
    }

    static boolean isBetter(List<Integer> a, List<Integer> b) {
        if (a.size() != b.size()) return a.size() < b.size();
        for (int i = 0; i < a.size(); i++) if (!a.get(i).equals(b.get(i))) return a.get(i) > b.get(i);
        return false;
    }

    int remade(int w, int m) { return stretches(w, m) == null ? NONE : stretches(w, m).size(); }

    int stretch(int w, int m, int k) {
        List<Integer> sizes = stretches(w, m);
        if (sizes == null || k < 0 || k >= sizes.size()) return NONE;
        int t = 0;
        for (int i = 0; i < k; i++) t += sizes.get(i);
        return t;
    }

    int unfound(int w, int m) {
        if (!isAsked(w, m)) return NONE;
        Set<Integer> found = new HashSet<>();
        for (int t = 0; t + w <= tape.size(); t++) {
            if (!fitting(t, w, m).isEmpty()) for (int i = 0; i < w; i++) found.add(t + i);
        }
        for (int t = 0; t < tape.size(); t++) if (!found.contains(t)) return t;
        return NONE;
    }

    int count(int what) {
        int there = 0;
        for (S s : strips) if (s.how == 0) there++;
        int[] told = {now, strips.size(), there, came(), hand.size(), machines.size(), scores.size(), text.size(),
            tape.size(), lastMade, last() == null ? NONE : last().piece.length};
        if (what >= 0 && what < told.length) return told[what];
        return scoreOf(what - 20) == null || what < 20 ? NONE : scoreOf(what - 20).size();
    }
}
