import java.util.Arrays;

/** A tape music studio. What each public method promises stands in DOC.md, under its name. */
public final class TapeStudio {
    public static final int NONE = -1;

    private static final int NO_SAMPLE = -2147483648;
    private static final int LAST_DAY = 400;
    private static final int MOST_DAYS_AT_ONCE = 100;

    private static final int MOST_IN_HAND = 300;
    private static final int FED_SAMPLES = 10;
    private static final int MOST_ON_TAPE = 1000;
    private static final int MOST_STRIPS = 100;
    private static final int MOST_STRIP_SAMPLES = 300;
    private static final int MOST_SAMPLES = 20000;
    private static final int MOST_MACHINES = 4;
    private static final int MOST_READINGS = 100;
    private static final int MOST_SLIVER = 9;
    private static final int LAST_NAIL = 29;
    private static final int LAST_MARK = 999;
    private static final int MOST_ANGLE = 20;
    private static final int WORN = 1000;

    private static final int THERE = 0;
    private static final int USED = 1;
    private static final int LOST = 2;

    private static final int KIND_STRIP = 0;
    private static final int KIND_PIECE = 1;
    private static final int KIND_TURNED = 2;
    private static final int KIND_LOOP = 3;
    private static final int KIND_JOINED = 4;
    private static final int KIND_COPIED = 5;
    private static final int KIND_SPEEDED = 6;

    private static final int MOST_BYTES = 1200;
    private static final int FED_BYTES = 20;
    private static final int MOST_SCORES = 8;
    private static final int MOST_ORDERS = 40;
    private static final int MOST_ROW_SAMPLES = 1500;
    private static final int MOST_PIECE_SAMPLES = 3000;

    /** The words that no W may be, six signs each; a keyword's number is its place here by six. */
    private static final String KEYWORDS = "take  mark  cut   turn  speed spliceloop  echo  copy  filterfade  gain  put   again from  to    angle for   after by    on    in    out   at    ";
    private static final int KEYWORD_SIGNS = 6;
    private static final int TAKE = 0;
    private static final int MARK = 1;
    private static final int CUT = 2;
    private static final int TURN = 3;
    private static final int SPEED = 4;
    private static final int SPLICE = 5;
    private static final int LOOP = 6;
    private static final int ECHO = 7;
    private static final int COPY = 8;
    private static final int FILTER = 9;
    private static final int FADE = 10;
    private static final int GAIN = 11;
    private static final int PUT = 12;
    private static final int AGAIN = 13;
    private static final int FROM = 14;
    private static final int TO = 15;
    private static final int ANGLE = 16;
    private static final int FOR = 17;
    private static final int AFTER = 18;
    private static final int BY = 19;
    private static final int ON = 20;
    private static final int IN = 21;
    private static final int OUT = 22;
    private static final int AT = 23;
    private static final int KEYWORD_COUNT = 24;

    private static final int MOST_STEPS = 9;
    private static final int NEVER = 1000000;

    private static final int WAYS = 4;
    private static final int MOST_WIDTH = 100;
    private static final int MOST_MISS = 65535;

    private final Shelf shelf;
    private final Row hand;
    private final Reader reader;
    private final Score[] scores;
    private int scoreCount;
    private final Player player;
    private final Piece piece;
    private final Work work;
    private final Row tape;
    private final Match match;

    public TapeStudio() {
        shelf = new Shelf();
        hand = new Row();
        reader = new Reader();
        scores = new Score[MOST_SCORES];
        player = new Player(shelf);
        piece = new Piece(shelf);
        work = new Work();
        tape = new Row();
        match = new Match(shelf, tape);
    }

    // ---- strips ----

    public int hand(int a, int b, int c, int d, int e) {
        if (hand.size() + FED_SAMPLES > MOST_IN_HAND) {
            return NONE;
        }
        feedPair(a);
        feedPair(b);
        feedPair(c);
        feedPair(d);
        feedPair(e);
        return hand.size();
    }

    private void feedPair(int pair) {
        hand.add(pair >> 16);
        hand.add((short) pair);
    }

    public int drop() {
        return emptied(hand);
    }

    public int strip(int n) {
        if (n < 1 || n > hand.size() || !shelf.hasRoom(1, n)) {
            return NONE;
        }
        int number = shelf.layStrip(hand, n);
        hand.dropFirst(n);
        return number;
    }

    public boolean sliver(int samples) {
        if (samples < 0 || samples > MOST_SLIVER) {
            return false;
        }
        shelf.sliver = samples;
        return true;
    }

    public int cut(int strip, int at) {
        return shelf.cutAt(strip, at);
    }

    public int turn(int strip) {
        return shelf.turnedOf(strip);
    }

    public int loop(int strip) {
        return shelf.loopOf(strip);
    }

    public int seam(int strip) {
        Strip loop = shelf.known(strip);
        if (loop == null || loop.kind != KIND_LOOP) {
            return NONE;
        }
        return Math.abs(loop.row.get(0) - loop.row.get(loop.row.size() - 1));
    }

    public int splice(int one, int other, int angle) {
        return shelf.joinedOf(one, other, angle);
    }

    public int machine(int what, int hiss, int rough) {
        return shelf.addMachine(what, hiss, rough);
    }

    public int copy(int strip, int machine) {
        return shelf.copiedOf(strip, machine);
    }

    public int speed(int strip, int machine, int p, int q) {
        return shelf.speededOf(strip, machine, p, q);
    }

    public boolean lose(int strip) {
        Strip lost = shelf.there(strip);
        if (lost == null) {
            return false;
        }
        shelf.takeAway(lost, LOST);
        return true;
    }

    public boolean hang(int strip, int nail) {
        Strip hung = shelf.there(strip);
        if (hung == null || nail < NONE || nail > LAST_NAIL) {
            return false;
        }
        int other = shelf.hangingOn(nail);
        if (other != NONE && other != strip) {
            return false;
        }
        hung.nail = nail;
        return true;
    }

    public int nail(int nail) {
        return shelf.hangingOn(nail);
    }

    public boolean read(int strip, int mark) {
        return shelf.readMark(strip, mark);
    }

    public int marked(int strip, int day) {
        if (day < 0 || day > LAST_DAY) {
            return NONE;
        }
        return shelf.markOf(strip, day);
    }

    public int go(int n) {
        if (n < 0 || n > MOST_DAYS_AT_ONCE) {
            return NONE;
        }
        shelf.now = Math.min(LAST_DAY, shelf.now + n);
        return shelf.now;
    }

    public int sample(int strip, int i) {
        Strip heard = shelf.known(strip);
        return heard == null ? NO_SAMPLE : sampleOf(heard.row, i);
    }

    public int told(int strip, int what) {
        Strip known = shelf.known(strip);
        return known == null ? NONE : known.fact(what);
    }

    // ---- scores ----

    public int feed(int a, int b, int c, int d, int e) {
        if (reader.size + FED_BYTES > MOST_BYTES) {
            return NONE;
        }
        reader.addFour(a);
        reader.addFour(b);
        reader.addFour(c);
        reader.addFour(d);
        reader.addFour(e);
        return reader.size;
    }

    public boolean end(int n) {
        if (n < 0 || n > reader.size) {
            return false;
        }
        reader.size = n;
        return true;
    }

    public int fault() {
        return reader.firstFault();
    }

    public int score() {
        if (scoreCount >= scores.length || reader.firstFault() != NONE) {
            return NONE;
        }
        scores[scoreCount] = reader.written();
        reader.size = 0;
        scoreCount++;
        return scoreCount - 1;
    }

    public int make(int score, int day) {
        Score played = scoreOf(score);
        if (played == null || !isPast(day) || player.firstFailing(played, day) != NONE) {
            return NONE;
        }
        player.noteLeads(played);
        piece.layAll(played, score, player);
        return piece.sound.size();
    }

    public int fails(int score, int day) {
        Score played = scoreOf(score);
        return played == null || !isPast(day) ? NONE : player.firstFailing(played, day);
    }

    public int out(int t) {
        return sampleOf(piece.sound, t);
    }

    public int why(int t, int k) {
        return piece.reason(t, k);
    }

    public int lead(int t, int track, int what) {
        return piece.leadTo(t, track, what);
    }

    public int quarrel(int i) {
        return piece.quarrelAt(i);
    }

    public int open(int score) {
        Score played = scoreOf(score);
        if (played == null || !played.made) {
            return NONE;
        }
        boolean fails = player.firstFailing(played, shelf.now) != NONE;
        return fails || player.leadsOtherwise(played) ? 1 : 0;
    }

    public int turns(int score) {
        Score worked = scoreOf(score);
        return worked == null ? NONE : work.leastTurns(worked, shelf.machineCount);
    }

    public int turnOf(int score, int order) {
        Score worked = scoreOf(score);
        return worked == null ? NONE : work.plannedTurn(worked, shelf.machineCount, order);
    }

    public int deep(int score) {
        Score known = scoreOf(score);
        return known == null ? NONE : player.depth(known);
    }

    // ---- the tape ----

    public int tape(int n) {
        if (n < 1 || n > hand.size() || tape.size() + n > MOST_ON_TAPE) {
            return NONE;
        }
        for (int i = 0; i < n; i++) {
            tape.add(hand.get(i));
        }
        hand.dropFirst(n);
        match.forget();
        return tape.size();
    }

    public int wipe() {
        match.forget();
        return emptied(tape);
    }

    public int near(int t, int w, int m, int what) {
        return match.search(t, w, m) ? match.best(what) : NONE;
    }

    public int rivals(int t, int w, int m) {
        return match.search(t, w, m) ? match.fitting - 1 : NONE;
    }

    public int remade(int w, int m) {
        return match.coveredBy(w, m) ? match.stretches() : NONE;
    }

    public int stretch(int w, int m, int k) {
        return match.coveredBy(w, m) ? match.stretchBegin(w, k) : NONE;
    }

    public int unfound(int w, int m) {
        return match.firstUnfound(w, m);
    }

    public int count(int what) {
        switch (what) {
            case 0: return shelf.now;
            case 1: return shelf.count;
            case 2: return shelf.countThere();
            case 3: return shelf.samples;
            case 4: return hand.size();
            case 5: return shelf.machineCount;
            case 6: return scoreCount;
            case 7: return reader.size;
            case 8: return tape.size();
            case 9: return piece.number;
            case 10: return piece.number == NONE ? NONE : piece.sound.size();
            default: break;
        }
        if (what < 20) {
            return NONE;
        }
        Score counted = scoreOf(what - 20);
        return counted == null ? NONE : counted.count;
    }

    private Score scoreOf(int number) {
        return number >= 0 && number < scoreCount && number < scores.length ? scores[number] : null;
    }

    private boolean isPast(int day) {
        return day >= 0 && day <= shelf.now;
    }

    private static int emptied(Row row) {
        int were = row.size();
        row.resize(0);
        return were;
    }

    private static int sampleOf(Row row, int i) {
        return i >= 0 && i < row.size() ? row.get(i) : NO_SAMPLE;
    }

    private static int nearest(int least, int most, int value) {
        return Math.max(least, Math.min(most, value));
    }

    /** Entry i of numbers, and instead of one that isn't there. */
    private static int entry(int[] numbers, int i, int instead) {
        return i >= 0 && i < numbers.length ? numbers[i] : instead;
    }

    private static void setEntry(int[] numbers, int i, int value) {
        if (i >= 0 && i < numbers.length) {
            numbers[i] = value;
        }
    }

    /** A row of samples. A place that isn't there is read as 0 and never written. */
    private static final class Row {
        private int[] samples = new int[0];
        private int length;

        int size() {
            return length;
        }

        int get(int i) {
            return i >= 0 && i < length && i < samples.length ? samples[i] : 0;
        }

        void set(int i, int value) {
            if (i >= 0 && i < length && i < samples.length) {
                samples[i] = nearest(-32768, 32767, value);
            }
        }

        /** Adds without a limit, so that a sum of many is limited but once, by limit(). */
        void raise(int i, int by) {
            if (i >= 0 && i < length && i < samples.length) {
                samples[i] += by;
            }
        }

        void limit() {
            for (int i = 0; i < length; i++) {
                set(i, get(i));
            }
        }

        void add(int value) {
            resize(length + 1);
            set(length - 1, value);
        }

        /** Keeps what is there; the array doubles at least, so that all growth of a row costs little. */
        void resize(int size) {
            int wanted = Math.max(size, 0);
            if (wanted > samples.length) {
                int[] wider = new int[Math.max(wanted, 2 * samples.length)];
                System.arraycopy(samples, 0, wider, 0, samples.length);
                samples = wider;
            }
            length = wanted;
        }

        void silence(int size) {
            resize(size);
            Arrays.fill(samples, 0);
        }

        void dropFirst(int n) {
            for (int i = n; i < length; i++) {
                set(i - n, get(i));
            }
            resize(length - n);
        }

        void fillPart(Row from, int begin, int size) {
            resize(size);
            for (int i = 0; i < size; i++) {
                set(i, from.get(begin + i));
            }
        }

        void fillTurned(Row from) {
            resize(from.length);
            for (int i = 0; i < length; i++) {
                set(i, from.get(length - 1 - i));
            }
        }

        void fillRound(Row from, int size) {
            resize(size);
            for (int i = 0; i < size && from.length > 0; i++) {
                set(i, from.get(i % from.length));
            }
        }

        void fillJoined(Row one, Row other, int angle) {
            int alone = one.length - angle;
            resize(joinedSize(one, other, angle));
            for (int i = 0; i < alone; i++) {
                set(i, one.get(i));
            }
            for (int i = 0; i < angle; i++) {
                int both = one.get(alone + i) * (angle - i) + other.get(i) * (i + 1);
                set(alone + i, both / (angle + 1));
            }
            for (int i = angle; i < other.length; i++) {
                set(alone + i, other.get(i));
            }
        }

        static int joinedSize(Row one, Row other, int angle) {
            return one.length + other.length - angle;
        }

        /** The row AT p BY q. */
        void fillPlayed(Row from, int p, int q) {
            int size = from.playedSize(p, q);
            resize(size);
            for (int i = 0; i < size; i++) {
                set(i, from.between(i * p, q));
            }
        }

        int playedSize(int p, int q) {
            return p < 1 || length < 1 ? 0 : (length - 1) * q / p + 1;
        }

        private int between(int places, int q) {
            if (q < 1) {
                return 0;
            }
            int place = places / q;
            int here = get(place);
            if (place + 1 >= length) {
                return here;
            }
            return here + places % q * (get(place + 1) - here) / q;
        }

        /** Each sample times a number by 64: what a LEVEL and what gain do. */
        void level(int times) {
            for (int i = 0; i < length; i++) {
                set(i, get(i) * times / 64);
            }
        }

        /** Each later sample is made of one that has its own echo already. */
        void echo(int after, int by) {
            for (int i = Math.max(after, 1); i < length; i++) {
                set(i, get(i) + get(i - after) * by / 256);
            }
        }

        void fillFiltered(Row from, int ahead, int own, int next) {
            resize(from.length);
            for (int i = 0; i < length; i++) {
                int sum = from.get(i - 1) * ahead + from.get(i) * own + from.get(i + 1) * next;
                set(i, sum / 64);
            }
        }

        void fadeIn(int n) {
            for (int i = 0; i < n; i++) {
                set(i, get(i) * i / n);
            }
        }

        void fadeOut(int n) {
            for (int behind = 0; behind < n; behind++) {
                int i = length - 1 - behind;
                set(i, get(i) * behind / n);
            }
        }
    }

    /** One strip, from the day on which it came. */
    private static final class Strip {
        private final int number;
        private final int kind;
        private final int day;
        private final Row row = new Row();
        private int state = THERE;
        private int generation;
        private int hiss;
        private int wear;
        private int nail = NONE;
        private int one = NONE;
        private int other = NONE;
        private int begin;

        Strip(int number, int kind, int day) {
            this.number = number;
            this.kind = kind;
            this.day = day;
        }

        int fact(int what) {
            switch (what) {
                case 0: return kind;
                case 1: return state;
                case 2: return row.size();
                case 3: return generation;
                case 4: return hiss;
                case 5: return wear;
                case 6: return nail;
                case 7: return day;
                case 8: return one;
                case 9: return other;
                case 10: return begin;
                default: return NONE;
            }
        }

        /** Takes the greater of its own and the other's, which is the other's for a strip that just came. */
        void ageAs(Strip made) {
            generation = Math.max(generation, made.generation);
            hiss = Math.max(hiss, made.hiss);
            wear = Math.max(wear, made.wear);
        }
    }

    /** A machine is never changed after it came. */
    private static final class Machine {
        private final int drift;
        private final int level;
        private final int hiss;
        private final int rough;

        Machine(int drift, int level, int hiss, int rough) {
            this.drift = drift;
            this.level = level;
            this.hiss = hiss;
            this.rough = rough;
        }

        int copyPace() {
            return 1000 + drift;
        }
    }

    /** All strips, machines and marks read, and the day. */
    private static final class Shelf {
        private final Strip[] strips = new Strip[MOST_STRIPS];
        private int count;
        private int samples;
        private int now;
        private int sliver;
        private final Machine[] machines = new Machine[MOST_MACHINES];
        private int machineCount;
        private final int[] readStrips = new int[MOST_READINGS];
        private final int[] readMarks = new int[MOST_READINGS];
        private final int[] readDays = new int[MOST_READINGS];
        private int readings;
        /** Goes on with each strip that comes or is lost: what was matched before holds no more then. */
        private int changes;

        Strip known(int number) {
            return number >= 0 && number < count && number < strips.length ? strips[number] : null;
        }

        Strip there(int number) {
            Strip strip = known(number);
            return strip != null && strip.state == THERE ? strip : null;
        }

        Machine machineOf(int number) {
            return number >= 0 && number < machineCount && number < machines.length ? machines[number] : null;
        }

        int countThere() {
            int found = 0;
            for (int i = 0; i < count; i++) {
                if (there(i) != null) {
                    found++;
                }
            }
            return found;
        }

        boolean hasRoom(int more, int moreSamples) {
            return count + more <= MOST_STRIPS && samples + moreSamples <= MOST_SAMPLES;
        }

        /** Call it only where there is room for the strip and for its samples. */
        private Strip begin(int kind, int size) {
            Strip strip = new Strip(count, kind, now);
            strip.row.resize(size);
            if (count < strips.length) {
                strips[count] = strip;
                count++;
            }
            samples += size;
            changes++;
            return strip;
        }

        private Strip beginOf(int kind, int size, Strip made) {
            Strip strip = begin(kind, size);
            strip.one = made.number;
            strip.ageAs(made);
            return strip;
        }

        void takeAway(Strip strip, int state) {
            strip.state = state;
            strip.nail = NONE;
            changes++;
        }

        int layStrip(Row hand, int n) {
            Strip strip = begin(KIND_STRIP, n);
            strip.row.fillPart(hand, 0, n);
            return strip.number;
        }

        int cutAt(int number, int at) {
            Strip whole = there(number);
            if (whole == null || at < 1 || at >= whole.row.size()) {
                return NONE;
            }
            int from = at + sliver;
            int rest = whole.row.size() - from;
            if (rest < 1 || !hasRoom(2, at + rest)) {
                return NONE;
            }
            int first = addPart(whole, 0, at);
            addPart(whole, from, rest);
            takeAway(whole, USED);
            return first;
        }

        private int addPart(Strip whole, int from, int size) {
            Strip part = beginOf(KIND_PIECE, size, whole);
            part.row.fillPart(whole.row, from, size);
            part.begin = from;
            return part.number;
        }

        /** The strip, if it is there and no loop. */
        private Strip freeStrip(int number) {
            Strip strip = there(number);
            return strip == null || strip.kind == KIND_LOOP ? null : strip;
        }

        int turnedOf(int number) {
            Strip strip = freeStrip(number);
            if (strip == null || !hasRoom(1, strip.row.size())) {
                return NONE;
            }
            Strip turned = beginOf(KIND_TURNED, strip.row.size(), strip);
            turned.row.fillTurned(strip.row);
            takeAway(strip, USED);
            return turned.number;
        }

        int loopOf(int number) {
            Strip strip = freeStrip(number);
            if (strip == null || !hasRoom(1, strip.row.size())) {
                return NONE;
            }
            Strip loop = beginOf(KIND_LOOP, strip.row.size(), strip);
            loop.row.fillPart(strip.row, 0, strip.row.size());
            takeAway(strip, USED);
            return loop.number;
        }

        int joinedOf(int oneNumber, int otherNumber, int angle) {
            Strip one = freeStrip(oneNumber);
            Strip other = freeStrip(otherNumber);
            if (one == null || other == null || one == other || angle < 0 || angle > MOST_ANGLE
                    || angle > Math.min(one.row.size(), other.row.size())) {
                return NONE;
            }
            int size = Row.joinedSize(one.row, other.row, angle);
            if (size > MOST_STRIP_SAMPLES || !hasRoom(1, size)) {
                return NONE;
            }
            Strip joined = beginOf(KIND_JOINED, size, one);
            joined.other = other.number;
            joined.ageAs(other);
            joined.row.fillJoined(one.row, other.row, angle);
            takeAway(one, USED);
            takeAway(other, USED);
            return joined.number;
        }

        int addMachine(int what, int hiss, int rough) {
            int drift = what / 1000 - 50;
            int level = what % 1000;
            if (what < 0 || drift > 50 || level > 128 || hiss < 0 || hiss > 100 || rough < 0 || rough > 200
                    || machineCount >= machines.length) {
                return NONE;
            }
            machines[machineCount] = new Machine(drift, level, hiss, rough);
            machineCount++;
            return machineCount - 1;
        }

        private boolean canPlay(Strip strip, Machine machine, int p, int q) {
            if (strip == null || machine == null || strip.wear >= WORN) {
                return false;
            }
            int size = strip.row.playedSize(p, q);
            return size >= 1 && size <= MOST_STRIP_SAMPLES && hasRoom(1, size);
        }

        /** What a machine plays of a strip, which is worn by that. */
        private Strip played(int kind, Strip strip, Machine machine, int p, int q) {
            Strip came = begin(kind, strip.row.playedSize(p, q));
            came.one = strip.number;
            came.generation = strip.generation + 1;
            came.hiss = Math.min(1000, strip.hiss + machine.hiss);
            came.row.fillPlayed(strip.row, p, q);
            strip.wear = Math.min(WORN, strip.wear + machine.rough);
            return came;
        }

        int copiedOf(int number, int machineNumber) {
            Strip strip = freeStrip(number);
            Machine machine = machineOf(machineNumber);
            if (machine == null || !canPlay(strip, machine, machine.copyPace(), 1000)) {
                return NONE;
            }
            Strip copied = played(KIND_COPIED, strip, machine, machine.copyPace(), 1000);
            copied.row.level(machine.level);
            return copied.number;
        }

        int speededOf(int number, int machineNumber, int p, int q) {
            Strip strip = freeStrip(number);
            Machine machine = machineOf(machineNumber);
            if (p < 1 || p > 8 || q < 1 || q > 8 || !canPlay(strip, machine, p, q)) {
                return NONE;
            }
            return played(KIND_SPEEDED, strip, machine, p, q).number;
        }

        int hangingOn(int nail) {
            for (int i = 0; i < count && nail != NONE; i++) {
                Strip strip = there(i);
                if (strip != null && strip.nail == nail) {
                    return i;
                }
            }
            return NONE;
        }

        boolean readMark(int number, int mark) {
            if (known(number) == null || mark < 0 || mark > LAST_MARK || readings >= MOST_READINGS) {
                return false;
            }
            setEntry(readStrips, readings, number);
            setEntry(readMarks, readings, mark);
            setEntry(readDays, readings, now);
            readings++;
            return true;
        }

        /** Days only go on, so the last reading that is not too late is the latest one. */
        int markOf(int number, int day) {
            for (int i = readings - 1; i >= 0; i--) {
                if (entry(readStrips, i, NONE) == number && entry(readDays, i, LAST_DAY) <= day) {
                    return entry(readMarks, i, NONE);
                }
            }
            return NONE;
        }

        int leastMarked(int mark, int day) {
            for (int i = 0; i < count; i++) {
                if (there(i) != null && markOf(i, day) == mark) {
                    return i;
                }
            }
            return NONE;
        }
    }

    /** The orders of a text, and where its marks led when it was made last without failing. */
    private static final class Score {
        private static final int VERB = 0;
        private static final int ONE = 1;
        private static final int OTHER = 2;
        private static final int FIRST = 3;
        private static final int SECOND = 4;
        private static final int THIRD = 5;
        private static final int TIMES = 6;
        private static final int LATER = 7;
        private static final int CELLS = 8;

        private final int[] cells;
        private int count;
        private boolean made;
        private final int[] leads = new int[MOST_ORDERS];

        Score(int[] cells, int count) {
            this.cells = cells;
            this.count = count;
        }

        int cell(int order, int which) {
            int at = order * CELLS + which;
            return order >= 0 && order < count && at >= 0 && at < cells.length ? cells[at] : NONE;
        }

        int verb(int order) {
            return cell(order, VERB);
        }

        int one(int order) {
            return cell(order, ONE);
        }

        int other(int order) {
            return cell(order, OTHER);
        }

        int number(int order, int which) {
            return cell(order, FIRST + which);
        }

        /** Whether its row comes from a strip and not from other rows. */
        boolean isSource(int order) {
            int verb = cell(order, VERB);
            return verb == TAKE || verb == MARK;
        }

        boolean isPut(int order) {
            return cell(order, VERB) == PUT;
        }

        boolean isBench(int order) {
            int verb = cell(order, VERB);
            return verb == CUT || verb == TURN || verb == SPLICE || verb == LOOP;
        }
    }

    /** The text, and the reading of its tokens and orders. */
    private static final class Reader {
        /** Kinds of tokens. A keyword's kind is its number, and one of the five signs is its own kind. */
        private static final int NAME = 24;
        private static final int NUMBER = 25;
        private static final int STRANGE = 26;
        private static final int END = 27;
        private static final int TOO_MUCH = 1000000;

        private final int[] bytes = new int[MOST_BYTES];
        private int size;
        private final int[] starts = new int[MOST_BYTES + 1];
        private final int[] kinds = new int[MOST_BYTES + 1];
        /** Of a name its letters as one number, of a number itself. */
        private final int[] values = new int[MOST_BYTES + 1];
        private int tokens;
        private int place;
        private int next;
        private final Score draft = new Score(new int[MOST_ORDERS * Score.CELLS], 0);
        private final int[] names = new int[MOST_ORDERS];
        private int numbers;

        void addFour(int four) {
            addByte(four >>> 24);
            addByte(four >>> 16 & 255);
            addByte(four >>> 8 & 255);
            addByte(four & 255);
        }

        private void addByte(int value) {
            if (size < bytes.length) {
                bytes[size] = value;
                size++;
            }
        }

        int firstFault() {
            readTokens();
            next = 0;
            draft.count = 0;
            for (int i = 0; i < MOST_BYTES && kind() != END; i++) {
                boolean stands = kind() == AGAIN ? readAgain() : kind() == PUT ? readPut(1, 0) : readMaking();
                if (!stands) {
                    return entry(starts, next, size);
                }
            }
            return NONE;
        }

        /** The score of a text that was just found to have no fault. */
        Score written() {
            return new Score(Arrays.copyOf(draft.cells, draft.count * Score.CELLS), draft.count);
        }

        // tokens

        private int byteAt(int i) {
            return i >= 0 && i < size && i < bytes.length ? bytes[i] : NONE;
        }

        private static boolean isLetter(int sign) {
            return sign >= 'a' && sign <= 'z';
        }

        private static boolean isDigit(int sign) {
            return sign >= '0' && sign <= '9';
        }

        private static boolean isSign(int sign) {
            return sign == '=' || sign == ';' || sign == '/' || sign == '{' || sign == '}';
        }

        private void readTokens() {
            tokens = 0;
            place = 0;
            while (place < size) {
                int start = place;
                int first = byteAt(start);
                place++;
                if (isLetter(first)) {
                    readWord(start);
                } else if (isDigit(first)) {
                    readNumber(start);
                } else if (first != ' ' && first != '\n') {
                    addToken(start, isSign(first) ? first : STRANGE, NONE);
                }
            }
            addToken(size, END, NONE);
        }

        private void addToken(int start, int kind, int value) {
            setEntry(starts, tokens, start);
            setEntry(kinds, tokens, kind);
            setEntry(values, tokens, value);
            tokens++;
        }

        /** Six letters of five bits each make a word's value; a longer word can stand nowhere. */
        private void readWord(int start) {
            int letters = byteAt(start) - 'a' + 1;
            while (place < size && isLetter(byteAt(place))) {
                letters = letters << 5 | byteAt(place) - 'a' + 1;
                place++;
            }
            if (place - start > KEYWORD_SIGNS) {
                addToken(start, STRANGE, NONE);
                return;
            }
            int keyword = NONE;
            for (int i = 0; i < KEYWORD_COUNT && keyword == NONE; i++) {
                if (isKeyword(i, start)) {
                    keyword = i;
                }
            }
            addToken(start, keyword == NONE ? NAME : keyword, letters);
        }

        /** Whether the word from start to place, of six letters at most, is the keyword of this number. */
        private boolean isKeyword(int number, int start) {
            for (int i = 0; i < KEYWORD_SIGNS; i++) {
                int at = KEYWORD_SIGNS * number + i;
                int due = at >= 0 && at < KEYWORDS.length() ? KEYWORDS.charAt(at) : ' ';
                int own = start + i < place ? byteAt(start + i) : ' ';
                if (due != own) {
                    return false;
                }
            }
            return true;
        }

        private void readNumber(int start) {
            int number = byteAt(start) - '0';
            while (place < size && isDigit(byteAt(place))) {
                number = Math.min(TOO_MUCH, number * 10 + byteAt(place) - '0');
                place++;
            }
            addToken(start, NUMBER, number);
        }

        // passing what may stand next; false, and the wrong token is next still

        private int kind() {
            return next >= 0 && next < kinds.length ? kinds[next] : END;
        }

        private int value() {
            return next >= 0 && next < values.length ? values[next] : NONE;
        }

        private boolean pass(int wanted) {
            if (kind() != wanted) {
                return false;
            }
            next++;
            return true;
        }

        private boolean isNumber(int least, int most) {
            return kind() == NUMBER && value() >= least && value() <= most;
        }

        private boolean passNumber(int least, int most) {
            if (!isNumber(least, most)) {
                return false;
            }
            setCell(Score.FIRST + numbers, value());
            numbers++;
            next++;
            return true;
        }

        private boolean passRow(int which) {
            int order = namedOrder();
            if (order == NONE) {
                return false;
            }
            setCell(which, order);
            next++;
            return true;
        }

        /** The order ahead that has the next word ahead of its =. */
        private int namedOrder() {
            for (int i = 0; i < draft.count && kind() == NAME; i++) {
                if (entry(names, i, NONE) == value()) {
                    return i;
                }
            }
            return NONE;
        }

        // orders

        private void setCell(int which, int number) {
            setEntry(draft.cells, draft.count * Score.CELLS + which, number);
        }

        private void beginOrder(int verb, int name) {
            setCell(Score.VERB, verb);
            setCell(Score.ONE, NONE);
            setCell(Score.OTHER, NONE);
            setCell(Score.TIMES, 0);
            setCell(Score.LATER, 0);
            setEntry(names, draft.count, name);
            numbers = 0;
        }

        private boolean endOrder() {
            if (!pass(';')) {
                return false;
            }
            draft.count++;
            return true;
        }

        private boolean readAgain() {
            next++;
            int times = value();
            if (!isNumber(1, 9)) {
                return false;
            }
            next++;
            if (!pass(BY)) {
                return false;
            }
            int later = value();
            if (!isNumber(0, 999)) {
                return false;
            }
            next++;
            if (!pass('{')) {
                return false;
            }
            for (int i = 0; i <= MOST_ORDERS; i++) {
                if (!readPut(times, later)) {
                    return false;
                }
                if (pass('}')) {
                    return true;
                }
            }
            return false;
        }

        private boolean readPut(int times, int later) {
            if (draft.count >= MOST_ORDERS) {
                return false;
            }
            beginOrder(PUT, NONE);
            setCell(Score.TIMES, times);
            setCell(Score.LATER, later);
            return pass(PUT) && passRow(Score.ONE) && pass(AT) && passNumber(0, 1500)
                    && pass(ON) && passNumber(0, 15) && endOrder();
        }

        private boolean readMaking() {
            if (draft.count >= MOST_ORDERS || kind() != NAME || namedOrder() != NONE) {
                return false;
            }
            int name = value();
            next++;
            if (!pass('=')) {
                return false;
            }
            int verb = kind();
            if (verb < TAKE || verb > GAIN) {
                return false;
            }
            next++;
            beginOrder(verb, name);
            return readParts(verb) && endOrder();
        }

        private boolean readParts(int verb) {
            if (verb == TAKE) {
                return passNumber(0, MOST_STRIPS - 1);
            }
            if (verb == MARK) {
                return passNumber(0, LAST_MARK);
            }
            if (!passRow(Score.ONE)) {
                return false;
            }
            switch (verb) {
                case CUT:
                    return pass(FROM) && passNumber(0, 1500) && pass(TO) && passNumber(0, 1500);
                case SPEED:
                    return passNumber(1, 8) && pass('/') && passNumber(1, 8);
                case SPLICE:
                    return passRow(Score.OTHER) && pass(ANGLE) && passNumber(0, 40);
                case LOOP:
                    return pass(FOR) && passNumber(0, 1500);
                case ECHO:
                    return pass(AFTER) && passNumber(1, 500) && pass(BY) && passNumber(0, 255);
                case COPY:
                    return pass(ON) && passNumber(0, 3);
                case FILTER:
                    return passNumber(0, 128) && passNumber(0, 128) && passNumber(0, 128);
                case FADE:
                    return pass(IN) && passNumber(0, 1500) && pass(OUT) && passNumber(0, 1500);
                case GAIN:
                    return passNumber(0, 128);
                default:
                    return true;
            }
        }
    }

    /** Plays the orders of a score: the rows and the strips of the one that was played last stay here. */
    private static final class Player {
        private final Shelf shelf;
        private final Row[] rows = new Row[MOST_ORDERS];
        private final Row silent = new Row();
        private final int[] leads = new int[MOST_ORDERS];
        private final int[] depths = new int[MOST_ORDERS];

        Player(Shelf shelf) {
            this.shelf = shelf;
            for (int i = 0; i < rows.length; i++) {
                rows[i] = new Row();
            }
        }

        Row row(int order) {
            return order >= 0 && order < rows.length ? rows[order] : silent;
        }

        int firstFailing(Score score, int day) {
            for (int i = 0; i < score.count; i++) {
                setEntry(leads, i, stripOf(score, i, day));
                boolean stands = score.isPut(i) ? canPut(score, i) : fillRow(score, i);
                if (!stands) {
                    return i;
                }
            }
            return NONE;
        }

        /** The strip there to which a take or mark leads. */
        private int stripOf(Score score, int order, int day) {
            int number = score.number(order, 0);
            if (score.verb(order) == MARK) {
                return shelf.leastMarked(number, day);
            }
            return score.verb(order) == TAKE && shelf.there(number) != null ? number : NONE;
        }

        private boolean canPut(Score score, int order) {
            int last = (score.cell(order, Score.TIMES) - 1) * score.cell(order, Score.LATER);
            return score.number(order, 0) + last + row(score.one(order)).size() <= MOST_PIECE_SAMPLES;
        }

        private boolean fillRow(Score score, int order) {
            Row row = row(order);
            Row from = row(score.one(order));
            int a = score.number(order, 0);
            int b = score.number(order, 1);
            switch (score.verb(order)) {
                case TAKE:
                case MARK:
                    return fillStrip(row, entry(leads, order, NONE));
                case CUT:
                    return fillCut(row, from, a, b);
                case TURN:
                    row.fillTurned(from);
                    return true;
                case SPEED:
                    return fillPlayed(row, from, a, b);
                case SPLICE:
                    return fillJoined(row, from, row(score.other(order)), a);
                case LOOP:
                    row.fillRound(from, a);
                    return isLength(a);
                case ECHO:
                    row.fillPart(from, 0, from.size());
                    row.echo(a, b);
                    return true;
                case COPY:
                    return fillCopied(row, from, shelf.machineOf(a));
                case FILTER:
                    row.fillFiltered(from, a, b, score.number(order, 2));
                    return true;
                case FADE:
                    return fillFaded(row, from, a, b);
                default:
                    row.fillPart(from, 0, from.size());
                    row.level(a);
                    return true;
            }
        }

        private static boolean isLength(int size) {
            return size >= 1 && size <= MOST_ROW_SAMPLES;
        }

        private boolean fillStrip(Row row, int number) {
            Strip strip = shelf.there(number);
            if (strip == null) {
                return false;
            }
            row.fillPart(strip.row, 0, strip.row.size());
            return true;
        }

        private static boolean fillCut(Row row, Row from, int begin, int end) {
            if (begin < 0 || begin >= end || end > from.size()) {
                return false;
            }
            row.fillPart(from, begin, end - begin);
            return true;
        }

        private static boolean fillPlayed(Row row, Row from, int p, int q) {
            if (!isLength(from.playedSize(p, q))) {
                return false;
            }
            row.fillPlayed(from, p, q);
            return true;
        }

        private static boolean fillJoined(Row row, Row one, Row other, int angle) {
            if (angle < 0 || angle > Math.min(one.size(), other.size())
                    || !isLength(Row.joinedSize(one, other, angle))) {
                return false;
            }
            row.fillJoined(one, other, angle);
            return true;
        }

        private static boolean fillCopied(Row row, Row from, Machine machine) {
            if (machine == null || !isLength(from.playedSize(machine.copyPace(), 1000))) {
                return false;
            }
            row.fillPlayed(from, machine.copyPace(), 1000);
            row.level(machine.level);
            return true;
        }

        private static boolean fillFaded(Row row, Row from, int in, int out) {
            if (in > from.size() || out > from.size()) {
                return false;
            }
            row.fillPart(from, 0, from.size());
            row.fadeIn(in);
            row.fadeOut(out);
            return true;
        }

        /** The score that was played last is made: this is where its marks lead. */
        void noteLeads(Score score) {
            score.made = true;
            for (int i = 0; i < score.count; i++) {
                setEntry(score.leads, i, entry(leads, i, NONE));
            }
        }

        boolean leadsOtherwise(Score score) {
            for (int i = 0; i < score.count; i++) {
                if (score.verb(i) == MARK && entry(leads, i, NONE) != entry(score.leads, i, NONE)) {
                    return true;
                }
            }
            return false;
        }

        int depth(Score score) {
            int deepest = NONE;
            for (int i = 0; i < score.count; i++) {
                int own = depthOf(score, i);
                setEntry(depths, i, own);
                if (score.isPut(i)) {
                    deepest = Math.max(deepest, own);
                }
            }
            return deepest;
        }

        private int depthOf(Score score, int order) {
            if (score.isSource(order)) {
                Strip strip = shelf.there(stripOf(score, order, shelf.now));
                return strip == null ? 0 : strip.generation;
            }
            int verb = score.verb(order);
            int more = verb == SPEED || verb == COPY || verb == ECHO || verb == FILTER ? 1 : 0;
            return more + Math.max(entry(depths, score.one(order), 0), entry(depths, score.other(order), 0));
        }
    }

    /** What was made last without failing. */
    private static final class Piece {
        private final Shelf shelf;
        private final Row sound = new Row();
        private Score score = new Score(new int[0], 0);
        private int number = NONE;
        private final int[] lengths = new int[MOST_ORDERS];
        private final int[] leads = new int[MOST_ORDERS];
        /** Where a way back through the orders is now. */
        private int backOrder;
        private int backPlace;

        Piece(Shelf shelf) {
            this.shelf = shelf;
        }

        void layAll(Score played, int playedNumber, Player player) {
            score = played;
            number = playedNumber;
            int end = 0;
            for (int i = 0; i < score.count; i++) {
                setEntry(leads, i, entry(player.leads, i, NONE));
                setEntry(lengths, i, player.row(score.isPut(i) ? score.one(i) : i).size());
                if (score.isPut(i)) {
                    end = Math.max(end, beginOf(i, times(i) - 1) + length(i));
                }
            }
            sound.silence(end);
            for (int i = 0; i < score.count; i++) {
                layPut(i, player.row(score.one(i)));
            }
            sound.limit();
        }

        private void layPut(int put, Row row) {
            for (int k = 0; k < times(put); k++) {
                int from = beginOf(put, k);
                for (int i = 0; i < row.size(); i++) {
                    sound.raise(from + i, row.get(i));
                }
            }
        }

        private int length(int order) {
            return entry(lengths, order, 0);
        }

        /** How often an order lays its row: never, if it is no put. */
        private int times(int order) {
            return score.cell(order, Score.TIMES);
        }

        private int beginOf(int put, int k) {
            return score.cell(put, Score.FIRST) + k * score.cell(put, Score.LATER);
        }

        private int track(int put) {
            return score.cell(put, Score.SECOND);
        }

        /** Where the earliest laying of a put begins that has this time; NONE if none has it. */
        private int beginWith(int put, int t) {
            for (int k = 0; k < times(put); k++) {
                int from = beginOf(put, k);
                if (t >= from && t < from + length(put)) {
                    return from;
                }
            }
            return NONE;
        }

        int reason(int t, int k) {
            long reasons = reasons(t);
            int left = k;
            for (int i = 0; i < score.count && left >= 0; i++) {
                if ((reasons >> i & 1) != 0) {
                    if (left == 0) {
                        return i;
                    }
                    left--;
                }
            }
            return NONE;
        }

        /** Bits by orders. Rows are made of orders ahead only, so one walk from the last one on finds all. */
        private long reasons(int t) {
            long found = 0;
            for (int i = score.count - 1; i >= 0; i--) {
                if (beginWith(i, t) != NONE) {
                    found |= 1L << i;
                }
                if ((found >> i & 1) != 0) {
                    found |= bit(score.one(i)) | bit(score.other(i));
                }
            }
            return found;
        }

        private static long bit(int order) {
            return order == NONE ? 0 : 1L << order;
        }

        int leadTo(int t, int track, int what) {
            int put = firstPut(t, track);
            if (put == NONE || what == 0) {
                return put;
            }
            backOrder = score.one(put);
            backPlace = t - beginWith(put, t);
            for (int i = 0; i < MOST_ORDERS && !score.isSource(backOrder); i++) {
                stepBack();
            }
            return what == 1 ? entry(leads, backOrder, NONE) : what == 2 ? backPlace : NONE;
        }

        private int firstPut(int t, int track) {
            for (int i = 0; i < score.count; i++) {
                if (track(i) == track && beginWith(i, t) != NONE) {
                    return i;
                }
            }
            return NONE;
        }

        private void stepBack() {
            int order = backOrder;
            int one = score.one(order);
            int a = score.number(order, 0);
            backOrder = one;
            switch (score.verb(order)) {
                case CUT:
                    backPlace += a;
                    break;
                case TURN:
                    backPlace = length(one) - 1 - backPlace;
                    break;
                case SPEED:
                    backPlace = quotient(backPlace * a, score.number(order, 1));
                    break;
                case COPY:
                    Machine machine = shelf.machineOf(a);
                    backPlace = machine == null ? backPlace : backPlace * machine.copyPace() / 1000;
                    break;
                case SPLICE:
                    if (backPlace >= length(one)) {
                        backOrder = score.other(order);
                        backPlace += a - length(one);
                    }
                    break;
                case LOOP:
                    backPlace = length(one) < 1 ? 0 : backPlace % length(one);
                    break;
                default:
                    break;
            }
        }

        private static int quotient(int number, int by) {
            return by < 1 ? 0 : number / by;
        }

        int quarrelAt(int i) {
            int left = i;
            for (int one = 0; one < score.count && left >= 0; one++) {
                for (int other = one; other < score.count; other++) {
                    if (quarrels(one, other)) {
                        if (left == 0) {
                            return one * 100 + other;
                        }
                        left--;
                    }
                }
            }
            return NONE;
        }

        private boolean quarrels(int one, int other) {
            if (!score.isPut(one) || !score.isPut(other) || track(one) != track(other)) {
                return false;
            }
            for (int k = 0; k < times(one); k++) {
                for (int j = one == other ? k + 1 : 0; j < times(other); j++) {
                    int gap = beginOf(other, j) - beginOf(one, k);
                    if (gap < length(one) && -gap < length(other)) {
                        return true;
                    }
                }
            }
            return false;
        }
    }

    /** The fewest turns of work of a score in a room with some machines. */
    private static final class Work {
        private final int[] steps = new int[MOST_STEPS];
        private final int[] needs = new int[MOST_STEPS];
        private final int[] stepOf = new int[MOST_ORDERS];
        /** By heaps of steps that are done: the fewest turns for all others, NEVER if they can't be done. */
        private final int[] least = new int[1 << MOST_STEPS];
        private Score score;
        private int count;
        private int machines;

        int leastTurns(Score worked, int machineCount) {
            score = worked;
            machines = machineCount;
            if (!gather()) {
                return NONE;
            }
            weigh();
            return leftFrom(0) >= NEVER ? NONE : leftFrom(0);
        }

        int plannedTurn(Score worked, int machineCount, int order) {
            int all = leastTurns(worked, machineCount);
            int step = order >= 0 && order < worked.count ? entry(stepOf, order, NONE) : NONE;
            if (all == NONE || step == NONE) {
                return NONE;
            }
            int done = 0;
            for (int turn = 1; turn <= all; turn++) {
                int heap = firstHeap(done);
                if ((heap >> step & 1) != 0) {
                    return turn;
                }
                done |= heap;
            }
            return NONE;
        }

        private boolean gather() {
            count = 0;
            for (int i = 0; i < score.count; i++) {
                setEntry(stepOf, i, NONE);
                if (!score.isSource(i) && !score.isPut(i)) {
                    if (count >= MOST_STEPS) {
                        return false;
                    }
                    setEntry(stepOf, i, count);
                    setEntry(steps, count, i);
                    setEntry(needs, count, stepBit(score.one(i)) | stepBit(score.other(i)));
                    count++;
                }
            }
            return count > 0;
        }

        private int stepBit(int order) {
            int step = entry(stepOf, order, NONE);
            return step == NONE ? 0 : 1 << step;
        }

        private int leftFrom(int done) {
            return entry(least, done, NEVER);
        }

        private void weigh() {
            int all = (1 << count) - 1;
            setEntry(least, all, 0);
            for (int done = all - 1; done >= 0; done--) {
                int ready = readyAfter(done);
                int fewest = NEVER;
                for (int heap = ready; heap > 0; heap = (heap - 1) & ready) {
                    if (leftFrom(done | heap) + 1 < fewest && fitsRoom(heap)) {
                        fewest = leftFrom(done | heap) + 1;
                    }
                }
                setEntry(least, done, fewest);
            }
        }

        private int readyAfter(int done) {
            int ready = 0;
            for (int step = 0; step < count; step++) {
                if ((done >> step & 1) == 0 && (entry(needs, step, 0) & ~done) == 0) {
                    ready |= 1 << step;
                }
            }
            return ready;
        }

        /** One step at most is at the bench; the others have a machine each, a copy the one that it tells. */
        private boolean fitsRoom(int heap) {
            int bench = 0;
            int playing = 0;
            int told = 0;
            for (int step = 0; step < count; step++) {
                int order = entry(steps, step, NONE);
                if ((heap >> step & 1) == 0) {
                    continue;
                }
                if (score.isBench(order)) {
                    bench++;
                    continue;
                }
                playing++;
                if (score.verb(order) == COPY) {
                    int machine = score.number(order, 0);
                    if (machine >= machines || (told >> machine & 1) != 0) {
                        return false;
                    }
                    told |= 1 << machine;
                }
            }
            return bench <= 1 && playing <= machines;
        }

        private int firstHeap(int done) {
            int ready = readyAfter(done);
            for (int heap = 1; heap <= ready; heap++) {
                if ((heap & ~ready) == 0 && leftFrom(done | heap) + 1 == leftFrom(done) && fitsRoom(heap)) {
                    return heap;
                }
            }
            return 0;
        }
    }

    /** The tape laid on strips. */
    private static final class Match {
        private final Shelf shelf;
        private final Row tape;
        private final Row way = new Row();
        private int bestStrip;
        private int bestWay;
        private int bestPlace;
        private int bestSum;
        private int fitting;
        /** By times of the tape: the longest stretch from there that some laying fits. */
        private final int[] longest = new int[MOST_ON_TAPE];
        /** By times of the tape: the fewest stretches from there to its end, NEVER if it can't be. */
        private final int[] fewest = new int[MOST_ON_TAPE + 1];
        /** By places of a way: the longest run from there and from the time that is measured. */
        private final int[] runs = new int[2 * MOST_STRIP_SAMPLES];
        private int measuredMiss = NONE;
        private int measuredChanges;

        Match(Shelf shelf, Row tape) {
            this.shelf = shelf;
            this.tape = tape;
        }

        void forget() {
            measuredMiss = NONE;
        }

        private static boolean isAsked(int w, int m) {
            return w >= 1 && w <= MOST_WIDTH && m >= 0 && m <= MOST_MISS;
        }

        private Row layable(int strip) {
            Strip known = shelf.known(strip);
            return known == null || known.state == LOST ? null : known.row;
        }

        private void fillWay(Row row, int which) {
            switch (which) {
                case 1:
                    way.fillTurned(row);
                    break;
                case 2:
                    way.fillPlayed(row, 1, 2);
                    break;
                case 3:
                    way.fillPlayed(row, 2, 1);
                    break;
                default:
                    way.fillPart(row, 0, row.size());
                    break;
            }
        }

        /** Whether anything fits; the nearest and how many fit are kept then. */
        boolean search(int t, int w, int m) {
            fitting = 0;
            if (!isAsked(w, m) || t < 0 || t > tape.size() - w) {
                return false;
            }
            for (int strip = 0; strip < shelf.count; strip++) {
                Row row = layable(strip);
                for (int which = 0; which < WAYS && row != null; which++) {
                    fillWay(row, which);
                    searchWay(strip, which, t, w, m);
                }
            }
            return fitting > 0;
        }

        private void searchWay(int strip, int which, int t, int w, int m) {
            for (int place = 0; place <= way.size() - w; place++) {
                int sum = missAt(place, t, w, m);
                if (sum == NONE) {
                    continue;
                }
                if (fitting == 0 || sum < bestSum) {
                    bestStrip = strip;
                    bestWay = which;
                    bestPlace = place;
                    bestSum = sum;
                }
                fitting++;
            }
        }

        /** The sum of how much both differ; NONE if two differ by more than m. */
        private int missAt(int place, int t, int w, int m) {
            int sum = 0;
            for (int i = 0; i < w; i++) {
                int miss = Math.abs(tape.get(t + i) - way.get(place + i));
                if (miss > m) {
                    return NONE;
                }
                sum += miss;
            }
            return sum;
        }

        int best(int what) {
            switch (what) {
                case 0: return bestStrip;
                case 1: return bestWay;
                case 2: return bestPlace;
                case 3: return bestSum;
                default: return NONE;
            }
        }

        /** Measuring is the dearest of all work, so it is done anew only when something has changed. */
        private void measure(int m) {
            if (measuredMiss == m && measuredChanges == shelf.changes) {
                return;
            }
            Arrays.fill(longest, 0);
            for (int strip = 0; strip < shelf.count; strip++) {
                Row row = layable(strip);
                for (int which = 0; which < WAYS && row != null; which++) {
                    fillWay(row, which);
                    measureWay(m);
                }
            }
            measuredMiss = m;
            measuredChanges = shelf.changes;
        }

        /**
         * From the last time on: a run that fits here is one longer than the run behind both samples. Its inner loop is
         * the one that is passed most often, so it stands on the bare arrays.
         */
        private void measureWay(int m) {
            int[] heard = way.samples;
            int places = Math.min(way.size(), Math.min(heard.length, runs.length - 1));
            Arrays.fill(runs, 0);
            for (int t = tape.size() - 1; t >= 0; t--) {
                int sample = tape.get(t);
                int most = longestFrom(t);
                for (int place = 0; place < places; place++) {
                    int miss = Math.abs(sample - heard[place]);
                    int run = miss <= m ? runs[place + 1] + 1 : 0;
                    runs[place] = run;
                    if (run > most) {
                        most = run;
                    }
                }
                setEntry(longest, t, most);
            }
        }

        private int longestFrom(int t) {
            return entry(longest, t, 0);
        }

        /** Whether stretches cover the whole tape; how many from each time on is kept then. */
        boolean coveredBy(int w, int m) {
            if (!isAsked(w, m)) {
                return false;
            }
            measure(m);
            setEntry(fewest, tape.size(), 0);
            for (int t = tape.size() - 1; t >= 0; t--) {
                int least = NEVER;
                for (int size = w; size <= longestFrom(t); size++) {
                    least = Math.min(least, fewestFrom(t + size) + 1);
                }
                setEntry(fewest, t, least);
            }
            return fewestFrom(0) < NEVER;
        }

        private int fewestFrom(int t) {
            return entry(fewest, t, NEVER);
        }

        int stretches() {
            return fewestFrom(0);
        }

        int stretchBegin(int w, int k) {
            if (k < 0 || k >= stretches()) {
                return NONE;
            }
            int t = 0;
            for (int i = 0; i < k; i++) {
                t += longestOfFewest(t, w);
            }
            return t;
        }

        private int longestOfFewest(int t, int w) {
            for (int size = longestFrom(t); size >= w; size--) {
                if (fewestFrom(t + size) + 1 == fewestFrom(t)) {
                    return size;
                }
            }
            return 0;
        }

        int firstUnfound(int w, int m) {
            if (!isAsked(w, m)) {
                return NONE;
            }
            measure(m);
            int found = 0;
            for (int t = 0; t < tape.size(); t++) {
                if (longestFrom(t) >= w) {
                    found = t + w;
                }
                if (t >= found) {
                    return t;
                }
            }
            return NONE;
        }
    }
}
