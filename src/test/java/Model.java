import java.util.ArrayList;
import java.util.List;

/**
 * The document once more, as plainly as it can be said, without care for speed or room: what ModelTest compares the
 * class with. It shares no code with the class.
 */
final class Model {
    static final class Drum {
        int length;
        int kind;
        int at;
        boolean[] pins;
        boolean stopped;

        Drum copy() {
            Drum d = new Drum();
            d.length = length;
            d.kind = kind;
            d.at = at;
            d.pins = pins.clone();
            d.stopped = stopped;
            return d;
        }

        int pinCount() {
            int n = 0;
            for (boolean pin : pins) {
                n += pin ? 1 : 0;
            }
            return n;
        }

        int bits() {
            int bits = 0;
            for (int b = 0; b < length; b++) {
                bits += pins[b] ? 1 << b : 0;
            }
            return bits;
        }

        boolean strikes(int h) {
            return !stopped && pins[(at + h) % length];
        }
    }

    static final class State {
        List<Drum> drums = new ArrayList<>();
        int hour = 0;
        int slips = 1;
        int mood = 0;
        List<List<Clause>> laws = new ArrayList<>();
        int force = -1;
        List<int[]> heard = new ArrayList<>();

        State copy() {
            State s = new State();
            for (Drum d : drums) {
                s.drums.add(d.copy());
            }
            s.hour = hour;
            s.slips = slips;
            s.mood = mood;
            s.laws.addAll(laws);
            s.force = force;
            s.heard.addAll(heard);
            return s;
        }
    }

    /** What the words of a text mean while it is asked. */
    interface Words {
        long of(String word, int drum);
    }

    interface Node {
        long value(Words words) throws Broken;
    }

    static final class Clause {
        String kind;
        Node first;
        Node second;
        Node test;
        int times = 1;
    }

    static final class Broken extends Exception {
        private static final long serialVersionUID = 1;
    }

    static final class Fault extends Exception {
        private static final long serialVersionUID = 1;
        final int place;

        Fault(int place) {
            this.place = place;
        }
    }

    record Token(String text, int place) {
    }

    /** Reads a text straight after the grammar. */
    static final class Parser {
        final List<Token> tokens = new ArrayList<>();
        final boolean law;
        int next = 0;
        int parts = 0;
        int brackets = 0;

        Parser(String text, boolean law) {
            this.law = law;
            int i = 0;
            while (i < text.length()) {
                int j = i + 1;
                char c = text.charAt(i);
                if (c == ' ') {
                    i++;
                    continue;
                }
                while (letter(c) && j < text.length() && letter(text.charAt(j))) {
                    j++;
                }
                while (digit(c) && j < text.length() && digit(text.charAt(j))) {
                    j++;
                }
                tokens.add(new Token(text.substring(i, j), i));
                i = j;
            }
            tokens.add(new Token("", text.length()));
        }

        static boolean letter(char c) {
            return c >= 'a' && c <= 'z';
        }

        static boolean digit(char c) {
            return c >= '0' && c <= '9';
        }

        String peek() {
            return tokens.get(next).text();
        }

        Fault fault() {
            return new Fault(tokens.get(next).place());
        }

        boolean accept(String text) {
            if (peek().equals(text)) {
                next++;
                return true;
            }
            return false;
        }

        void expect(String text) throws Fault {
            if (!accept(text)) {
                throw fault();
            }
        }

        boolean isNumber() {
            return !peek().isEmpty() && digit(peek().charAt(0));
        }

        int number(int low, int high) throws Fault {
            if (!isNumber()) {
                throw fault();
            }
            java.math.BigInteger n = new java.math.BigInteger(peek());
            if (n.compareTo(java.math.BigInteger.valueOf(low)) < 0
                    || n.compareTo(java.math.BigInteger.valueOf(high)) > 0) {
                throw fault();
            }
            next++;
            return n.intValue();
        }

        List<Clause> text() throws Fault {
            List<Clause> clauses = new ArrayList<>();
            do {
                if (clauses.size() == 12) {
                    throw fault();
                }
                clauses.add(law ? lawClause() : order());
            } while (accept(";"));
            if (!peek().isEmpty()) {
                throw fault();
            }
            return clauses;
        }

        Clause lawClause() throws Fault {
            Clause c = new Clause();
            c.kind = peek();
            if (accept("sounds")) {
                c.first = sum();
            } else if (!accept("drops") && !accept("bars")) {
                throw fault();
            }
            if (accept("if")) {
                c.test = test();
            }
            return c;
        }

        Clause order() throws Fault {
            Clause c = new Clause();
            c.kind = peek();
            if (accept("pin")) {
                c.first = sum();
                expect("at");
                c.second = sum();
            } else if (accept("shift")) {
                c.first = sum();
                expect("by");
                c.second = sum();
            } else if (accept("stop")) {
                c.first = sum();
            } else if (!accept("pass")) {
                throw fault();
            }
            if (accept("times")) {
                c.times = number(1, 20);
            }
            if (accept("if")) {
                c.test = test();
            }
            return c;
        }

        Node test() throws Fault {
            Node left = both();
            while (accept("or")) {
                Node a = left;
                Node b = both();
                left = w -> a.value(w) == 1 ? 1 : b.value(w);
            }
            return left;
        }

        Node both() throws Fault {
            Node left = plain();
            while (accept("and")) {
                Node a = left;
                Node b = plain();
                left = w -> a.value(w) == 0 ? 0 : b.value(w);
            }
            return left;
        }

        Node plain() throws Fault {
            if (accept("not")) {
                Node a = plain();
                return w -> 1 - a.value(w);
            }
            if (peek().equals("(")) {
                open();
                Node a = test();
                expect(")");
                brackets--;
                return a;
            }
            Node a = sum();
            String sign = peek();
            if (!accept("<") && !accept(">") && !accept("=")) {
                throw fault();
            }
            Node b = sum();
            return w -> {
                int order = Long.compare(a.value(w), b.value(w));
                return order == (sign.equals("<") ? -1 : sign.equals(">") ? 1 : 0) ? 1 : 0;
            };
        }

        void open() throws Fault {
            if (brackets == 8) {
                throw fault();
            }
            brackets++;
            next++;
        }

        Node sum() throws Fault {
            Node left = term();
            while (true) {
                Node a = left;
                if (accept("+")) {
                    Node b = term();
                    left = w -> bounded(a.value(w) + b.value(w));
                } else if (accept("-")) {
                    Node b = term();
                    left = w -> bounded(a.value(w) - b.value(w));
                } else {
                    return left;
                }
            }
        }

        Node term() throws Fault {
            Node left = part();
            while (true) {
                Node a = left;
                if (accept("*")) {
                    Node b = part();
                    left = w -> bounded(a.value(w) * b.value(w));
                } else if (accept("/")) {
                    Node b = part();
                    left = w -> a.value(w) / divisor(b.value(w));
                } else if (accept("%")) {
                    Node b = part();
                    left = w -> a.value(w) % divisor(b.value(w));
                } else {
                    return left;
                }
            }
        }

        static long bounded(long n) throws Broken {
            if (Math.abs(n) > 1_000_000_000L) {
                throw new Broken();
            }
            return n;
        }

        static long divisor(long n) throws Broken {
            if (n == 0) {
                throw new Broken();
            }
            return n;
        }

        Node part() throws Fault {
            if (peek().equals("[")) {
                open();
                Node a = sum();
                expect("]");
                brackets--;
                return a;
            }
            if (parts == 50) {
                throw fault();
            }
            if (isNumber()) {
                long n = number(0, 1000);
                parts++;
                return w -> n;
            }
            String word = peek();
            List<String> words = law ? List.of("drum", "long", "kind", "beat", "pins", "hour", "mood")
                    : List.of("hour", "done", "latest", "loud", "all", "at", "pins");
            if (!words.contains(word)) {
                throw fault();
            }
            next++;
            parts++;
            int drum = !law && (word.equals("at") || word.equals("pins")) ? number(0, 5) : -1;
            return w -> w.of(word, drum);
        }
    }

    private State s = new State();
    private final State[] images = new State[2];
    private List<Object[]> past = new ArrayList<>();
    private State paper = new State();
    private final StringBuilder tape = new StringBuilder();
    private int sleeves = 0;
    private int fault = -1;
    private int stopped = -1;
    private int status = 0;
    private final int[] refused = new int[7];

    private static final List<String> WITH_STATUS = List.of("drum", "terms", "row", "law", "orders", "force", "pin",
            "shift", "stop", "pass", "undo", "heard", "days", "image", "back");

    private int refusal = 0;

    private int no(int why) {
        refusal = why;
        return why;
    }

    /** Any call of the face, by its name. */
    long call(String name, int... a) {
        refusal = 0;
        long answer = answer(name, a);
        if (WITH_STATUS.contains(name)) {
            status = refusal;
            if (refusal != 0) {
                refused[-refusal]++;
            }
        }
        return answer;
    }

    private long answer(String name, int[] a) {
        switch (name) {
            case "drum":
                return drum(a[0], a[1], a[2], a[3]);
            case "of":
                return of(a[0], a[1]);
            case "asks":
                return asks(a[0], a[1], a[2]);
            case "terms":
                return terms(a[0], a[1]);
            case "feed":
                return feed(a);
            case "end":
                if (a[0] < 0 || a[0] > tape.length()) {
                    return -1;
                }
                tape.setLength(a[0]);
                return a[0];
            case "row":
                return row();
            case "sleeves":
                return sleeves;
            case "law":
                return law();
            case "orders":
                return orders();
            case "fault":
                return fault;
            case "stopped":
                return stopped;
            case "force": {
                if (a[0] != -1 && (a[0] < 0 || a[0] >= s.laws.size())) {
                    return no(-2);
                }
                int was = s.force;
                s.force = a[0];
                return was;
            }
            case "pin":
                return change(s, 0, a[0], a[1], past);
            case "shift":
                return change(s, 1, a[0], a[1], past);
            case "stop":
                return change(s, 2, a[0], 0, past);
            case "pass":
                return change(s, 3, 0, 0, past);
            case "undo":
                return undo();
            default:
                return question(name, a);
        }
    }

    private long question(String name, int[] a) {
        switch (name) {
            case "loud":
                return a[0] < 0 || a[0] > 30000 ? -1 : loud(s, a[0], inForce(s));
            case "round":
                return round();
            case "when":
                return when(a[0]);
            case "often":
                return often(a[0]);
            case "alone":
                return alone(a[0]);
            case "loudest":
                return loudest(a[0]);
            case "quiet":
                return quiet(a[0]);
            case "most":
                return shiftBest(a[0], a[1], 1);
            case "least":
                return shiftBest(a[0], a[1], -1);
            case "never":
                return never(a[0]);
            case "add":
                return add(a[0], a[1]);
            case "tune":
                return tune();
            case "heard":
                if (a[0] < 0 || a[0] > 99 || a[1] != 0 && a[1] != 1) {
                    return no(-1);
                }
                if (s.heard.size() == 6) {
                    return no(-5);
                }
                s.heard.add(new int[] {a[0], a[1]});
                return s.heard.size();
            case "forget": {
                int n = s.heard.size();
                s.heard.clear();
                return n;
            }
            case "canBe":
                return canBe();
            case "listen":
                return listen(a[0]);
            case "few":
                return few(a[0], a[1]);
            case "compare":
                return compare(a[0]);
            case "days":
                return days(a[0], a[1]);
            case "drawn":
                return drawn(a[0], a[1]);
            case "image":
                if (a[0] != 0 && a[0] != 1) {
                    return no(-1);
                }
                images[a[0]] = s.copy();
                return 0;
            case "back":
                if (a[0] != 0 && a[0] != 1) {
                    return no(-1);
                }
                if (images[a[0]] == null) {
                    return no(-2);
                }
                s = images[a[0]].copy();
                past.clear();
                return 0;
            case "count":
                return count(a[0]);
            case "status":
                return status;
            default:
                throw new IllegalArgumentException(name);
        }
    }

    private boolean there(int drum) {
        return drum >= 0 && drum < s.drums.size();
    }

    private static Drum drumOf(int length, int kind, int at, int pins) {
        if (length < 1 || length > 12 || kind < 0 || kind > 3 || at < 0 || at >= length || pins < 0
                || pins >= 1 << length) {
            return null;
        }
        Drum d = new Drum();
        d.length = length;
        d.kind = kind;
        d.at = at;
        d.pins = new boolean[length];
        for (int b = 0; b < length; b++) {
            d.pins[b] = (pins & 1 << b) != 0;
        }
        return d;
    }

    private int drum(int length, int kind, int at, int pins) {
        Drum d = drumOf(length, kind, at, pins);
        if (d == null) {
            return no(-1);
        }
        if (s.drums.size() == 6) {
            return no(-5);
        }
        s.drums.add(d);
        past.clear();
        return s.drums.size() - 1;
    }

    private int of(int drum, int what) {
        if (!there(drum) || what < 0 || what > 5) {
            return -1;
        }
        Drum d = s.drums.get(drum);
        int[] all = {d.length, d.kind, d.at, d.bits(), d.stopped ? 1 : 0, d.strikes(0) ? 1 : 0};
        return all[what];
    }

    private int asks(int drum, int beat, int what) {
        if (!there(drum) || beat < 0 || beat >= s.drums.get(drum).length || what < 0 || what > 2) {
            return -1;
        }
        return ask(s, inForce(s), drum, beat, what);
    }

    private static List<Clause> inForce(State s) {
        return s.force == -1 ? List.of() : s.laws.get(s.force);
    }

    private static int ask(State s, List<Clause> law, int drum, int beat, int what) {
        Drum d = s.drums.get(drum);
        Words words = (word, none) -> switch (word) {
            case "drum" -> drum;
            case "long" -> d.length;
            case "kind" -> d.kind;
            case "beat" -> beat;
            case "pins" -> d.pinCount();
            case "hour" -> s.hour;
            default -> s.mood;
        };
        long sounds = 1;
        int drops = 0;
        int bars = 0;
        for (Clause c : law) {
            try {
                long sum = c.first == null ? 0 : c.first.value(words);
                if (c.test != null && c.test.value(words) != 1) {
                    continue;
                }
                switch (c.kind) {
                    case "sounds" -> sounds = sum;
                    case "drops" -> drops = 1;
                    default -> bars = 1;
                }
            } catch (Broken broken) {
                continue;
            }
        }
        return what == 0 ? (int) Math.max(0, Math.min(9, sounds)) : what == 1 ? drops : bars;
    }

    private int terms(int what, int value) {
        int[] high = {999, 10, 9};
        if (what < 0 || what > 2 || value < 0 || value > high[what]) {
            return no(-1);
        }
        int was = what == 0 ? s.hour : what == 1 ? s.slips : s.mood;
        if (what == 0) {
            s.hour = value;
        } else if (what == 1) {
            s.slips = value;
        } else {
            s.mood = value;
        }
        past.clear();
        return was;
    }

    private int feed(int[] a) {
        if (tape.length() > 380) {
            return -1;
        }
        for (int n : a) {
            for (int i = 3; i >= 0; i--) {
                tape.append((char) (n >> 8 * i & 255));
            }
        }
        return tape.length();
    }

    private int row() {
        if (tape.length() == 0) {
            return no(-6);
        }
        int came = 0;
        sleeves = 0;
        for (int i = 0; i < tape.length(); i += 4) {
            Drum d = i + 3 >= tape.length() ? null
                    : drumOf(tape.charAt(i), tape.charAt(i + 1), tape.charAt(i + 2), tape.charAt(i + 3));
            if (d == null || s.drums.size() == 6) {
                sleeves++;
            } else {
                s.drums.add(d);
                came++;
            }
        }
        tape.setLength(0);
        past.clear();
        return came;
    }

    private List<Clause> read(boolean law) {
        String text = tape.toString();
        tape.setLength(0);
        fault = -1;
        try {
            return new Parser(text, law).text();
        } catch (Fault f) {
            fault = f.place;
            return null;
        }
    }

    private int law() {
        if (s.laws.size() == 6) {
            tape.setLength(0);
            return no(-5);
        }
        List<Clause> law = read(true);
        if (law == null) {
            return no(-6);
        }
        s.laws.add(law);
        return s.laws.size() - 1;
    }

    private int orders() {
        stopped = -1;
        List<Clause> text = read(false);
        if (text == null) {
            return no(-6);
        }
        State trial = s.copy();
        List<Object[]> trialPast = new ArrayList<>(past);
        int[] told = {0, -1};
        Words words = (word, drum) -> {
            boolean is = drum < trial.drums.size();
            return switch (word) {
                case "hour" -> trial.hour;
                case "done" -> told[0];
                case "latest" -> told[1];
                case "loud" -> loud(trial, 0, inForce(trial));
                case "all" -> trial.drums.stream().mapToInt(Drum::pinCount).sum();
                case "at" -> is ? trial.drums.get(drum).at : -1;
                default -> is ? trial.drums.get(drum).pinCount() : -1;
            };
        };
        for (int c = 0; c < text.size(); c++) {
            Clause clause = text.get(c);
            for (int i = 0; i < clause.times; i++) {
                try {
                    if (clause.test != null && clause.test.value(words) != 1) {
                        continue;
                    }
                } catch (Broken broken) {
                    continue;
                }
                int answer;
                try {
                    int first = clause.first == null ? 0 : (int) clause.first.value(words);
                    int second = clause.second == null ? 0 : (int) clause.second.value(words);
                    int kind = List.of("pin", "shift", "stop", "pass").indexOf(clause.kind);
                    answer = change(trial, kind, first, second, trialPast);
                } catch (Broken broken) {
                    answer = -3;
                }
                if (answer < 0) {
                    stopped = c;
                    return no(-3);
                }
                told[0]++;
                if (clause.kind.equals("pass")) {
                    told[1] = answer;
                }
            }
        }
        s = trial;
        past = trialPast;
        return told[0];
    }

    private int change(State on, int kind, int drum, int number, List<Object[]> kept) {
        int why = whyNot(on, kind, drum, number);
        if (why != 0) {
            return no(why);
        }
        kept.add(new Object[] {kind, on.copy()});
        if (kept.size() > 16) {
            kept.remove(0);
        }
        return act(on, kind, drum, number);
    }

    private static int whyNot(State on, int kind, int drum, int number) {
        if (kind == 3) {
            return on.hour == 999 ? -3 : 0;
        }
        if (kind == 0 && (number < 0 || number > 11) || kind == 1 && (number < 1 || number > 11)) {
            return -1;
        }
        if (drum < 0 || drum >= on.drums.size()) {
            return -2;
        }
        Drum d = on.drums.get(drum);
        if (kind == 0) {
            if (number >= d.length) {
                return -3;
            }
            if (!d.pins[number] && ask(on, inForce(on), drum, number, 2) == 1) {
                return -3;
            }
        }
        return 0;
    }

    private static int act(State on, int kind, int drum, int number) {
        if (kind == 3) {
            int loud = loud(on, 0, inForce(on));
            List<Integer> dropping = new ArrayList<>();
            for (int i = 0; i < on.drums.size(); i++) {
                Drum d = on.drums.get(i);
                if (d.strikes(0) && ask(on, inForce(on), i, d.at, 1) == 1) {
                    dropping.add(i);
                }
            }
            for (int i : dropping) {
                on.drums.get(i).pins[on.drums.get(i).at] = false;
            }
            for (Drum d : on.drums) {
                if (!d.stopped) {
                    d.at = d.at + 1 == d.length ? 0 : d.at + 1;
                }
            }
            on.hour++;
            return loud;
        }
        Drum d = on.drums.get(drum);
        if (kind == 0) {
            d.pins[number] = !d.pins[number];
            return d.pins[number] ? 1 : 0;
        }
        if (kind == 1) {
            for (int i = 0; i < number; i++) {
                d.at = d.at + 1 == d.length ? 0 : d.at + 1;
            }
            return d.at;
        }
        d.stopped = !d.stopped;
        return d.stopped ? 1 : 0;
    }

    private int undo() {
        if (past.isEmpty()) {
            return no(-3);
        }
        Object[] latest = past.remove(past.size() - 1);
        State was = (State) latest[1];
        for (int i = 0; i < s.drums.size(); i++) {
            s.drums.get(i).pins = was.drums.get(i).pins.clone();
            s.drums.get(i).at = was.drums.get(i).at;
            s.drums.get(i).stopped = was.drums.get(i).stopped;
        }
        s.hour = was.hour;
        return (Integer) latest[0];
    }

    private static int loud(State on, int h, List<Clause> law) {
        int loud = 0;
        for (int i = 0; i < on.drums.size(); i++) {
            Drum d = on.drums.get(i);
            if (d.strikes(h)) {
                loud += ask(on, law, i, (d.at + h) % d.length, 0);
            }
        }
        return loud;
    }

    private int round() {
        for (int h = 1;; h++) {
            boolean same = true;
            for (Drum d : s.drums) {
                same &= d.stopped || h % d.length == 0;
            }
            if (same) {
                return h;
            }
        }
    }

    private boolean allThere(int set) {
        return set >= 0 && set < 1 << s.drums.size();
    }

    private boolean atOnce(int set, int h) {
        for (int d = 0; d < s.drums.size(); d++) {
            if ((set & 1 << d) != 0 && !s.drums.get(d).strikes(h)) {
                return false;
            }
        }
        return true;
    }

    private int when(int set) {
        for (int h = 0; allThere(set) && h < round(); h++) {
            if (atOnce(set, h)) {
                return h;
            }
        }
        return -1;
    }

    private int often(int set) {
        int n = 0;
        int round = round();
        for (int h = 0; h < round && allThere(set); h++) {
            n += atOnce(set, h) ? 1 : 0;
        }
        return allThere(set) ? n : -1;
    }

    private boolean others(int drum, int h) {
        for (int d = 0; d < s.drums.size(); d++) {
            if (d != drum && s.drums.get(d).strikes(h)) {
                return true;
            }
        }
        return false;
    }

    private int alone(int drum) {
        if (!there(drum)) {
            return -1;
        }
        int n = 0;
        int round = round();
        for (int h = 0; h < round; h++) {
            n += s.drums.get(drum).strikes(h) && !others(drum, h) ? 1 : 0;
        }
        return n;
    }

    /** How loud all hours of a round are. */
    private int[] louds(List<Clause> law) {
        int[] louds = new int[round()];
        int[][] sounds = new int[s.drums.size()][12];
        for (int d = 0; d < sounds.length; d++) {
            for (int b = 0; b < s.drums.get(d).length; b++) {
                sounds[d][b] = ask(s, law, d, b, 0);
            }
        }
        for (int h = 0; h < louds.length; h++) {
            for (int d = 0; d < sounds.length; d++) {
                Drum drum = s.drums.get(d);
                louds[h] += drum.strikes(h) ? sounds[d][(drum.at + h) % drum.length] : 0;
            }
        }
        return louds;
    }

    private int loudest(int what) {
        int[] louds = louds(inForce(s));
        int most = 0;
        for (int loud : louds) {
            most = Math.max(most, loud);
        }
        int first = -1;
        int times = 0;
        for (int h = 0; h < louds.length; h++) {
            if (louds[h] == most) {
                first = first == -1 ? h : first;
                times++;
            }
        }
        return what == 0 ? most : what == 1 ? first : what == 2 ? times : -1;
    }

    private int quiet(int what) {
        int round = round();
        int best = 0;
        int first = -1;
        for (int h = 0; h < round; h++) {
            int n = 0;
            while (n < round && !others(-1, h + n)) {
                n++;
            }
            if (n > best) {
                best = n;
                first = h;
            }
            if (best == round) {
                break;
            }
        }
        return what == 0 ? best : what == 1 ? first : -1;
    }

    private int shiftBest(int drum, int what, int sign) {
        if (!there(drum) || what < 0 || what > 1) {
            return -1;
        }
        Drum d = s.drums.get(drum);
        int was = d.at;
        int best = -1;
        int times = 0;
        int round = round();
        for (int shift = 0; shift < d.length; shift++) {
            d.at = (was + shift) % d.length;
            int n = 0;
            for (int h = 0; h < round; h++) {
                n += d.strikes(h) && others(drum, h) ? 1 : 0;
            }
            if (best == -1 || sign * n > sign * times) {
                best = shift;
                times = n;
            }
        }
        d.at = was;
        return what == 0 ? best : times;
    }

    private int never(int what) {
        for (int size = 1; size <= s.drums.size(); size++) {
            for (int set = 1; set < 1 << s.drums.size(); set++) {
                if (Integer.bitCount(set) == size && often(set) == 0) {
                    return what == 0 ? size : what == 1 ? set : -1;
                }
            }
        }
        return -1;
    }

    private int add(int set, int what) {
        if (set == 0 || !allThere(set) || what < 0 || what > 1) {
            return -1;
        }
        int best = 99;
        int first = -1;
        int round = round();
        for (int h = 0; h < round; h++) {
            int n = 0;
            for (int i = 0; i < s.drums.size(); i++) {
                Drum d = s.drums.get(i);
                int beat = (d.at + h) % d.length;
                if ((set & 1 << i) == 0) {
                    continue;
                }
                if (d.stopped || !d.pins[beat] && ask(s, inForce(s), i, beat, 2) == 1) {
                    n = 100;
                } else if (!d.pins[beat]) {
                    n++;
                }
            }
            if (n < best) {
                best = n;
                first = h;
            }
        }
        return first == -1 ? -1 : what == 0 ? best : first;
    }

    private int tune() {
        int[] louds = louds(inForce(s));
        for (int p = 1;; p++) {
            boolean same = louds.length % p == 0;
            for (int h = 0; h < louds.length && same; h++) {
                same = louds[h] == louds[(h + p) % louds.length];
            }
            if (same) {
                return p;
            }
        }
    }

    private int canBe() {
        int set = 0;
        for (int d = 0; d < s.drums.size(); d++) {
            boolean fits = true;
            for (int[] heard : s.heard) {
                fits &= s.drums.get(d).strikes(heard[0]) == (heard[1] == 1);
            }
            set += fits ? 1 << d : 0;
        }
        return set;
    }

    private int listen(int what) {
        int set = canBe();
        if (set == 0 || what < 0 || what > 1) {
            return -1;
        }
        int best = 99;
        int first = -1;
        for (int h = 0; h < 100; h++) {
            int n = 0;
            for (int d = 0; d < s.drums.size(); d++) {
                n += (set & 1 << d) != 0 && s.drums.get(d).strikes(h) ? 1 : 0;
            }
            int more = Math.max(n, Integer.bitCount(set) - n);
            if (more < best) {
                best = more;
                first = h;
            }
        }
        return what == 0 ? first : best;
    }

    private long few(int k, int n) {
        if (k < 1 || k > 20 || n < 0 || n > 99) {
            return -1;
        }
        long[] parts = new long[102];
        parts[0] = 1_000_000_000_000L;
        for (int i = 0; i < n; i++) {
            long[] next = new long[102];
            for (int j = 0; j <= i; j++) {
                next[j] += parts[j] * (10 - s.slips) / 10;
                next[j + 1] += parts[j] * s.slips / 10;
            }
            parts = next;
        }
        long sum = 0;
        for (int j = 0; j < k; j++) {
            sum += parts[j];
        }
        return sum;
    }

    private int compare(int law) {
        if (law < -1 || law >= s.laws.size()) {
            return -1;
        }
        int sum = 0;
        for (int loud : louds(law == -1 ? List.of() : s.laws.get(law))) {
            sum += loud;
        }
        return sum;
    }

    private int days(int seed, int n) {
        if (seed < 0 || seed > 1_000_000 || n < 1 || n > 60) {
            return no(-1);
        }
        if (s.drums.isEmpty()) {
            return no(-3);
        }
        paper = s.copy();
        long state = seed;
        int sum = 0;
        for (int i = 0; i < n && paper.hour != 999; i++) {
            int[] draws = new int[3];
            int[] of = {paper.drums.size(), 12, 3};
            for (int j = 0; j < 3; j++) {
                state = (state * 1103 + 12345) % 1_000_003;
                draws[j] = (int) (state % of[j]);
            }
            if (draws[2] == 0) {
                if (whyNot(paper, 0, draws[0], draws[1]) == 0) {
                    act(paper, 0, draws[0], draws[1]);
                }
            } else if (draws[2] == 1) {
                act(paper, 1, draws[0], 1);
            } else {
                act(paper, 2, draws[0], 0);
            }
            sum += act(paper, 3, 0, 0);
        }
        return sum;
    }

    private int drawn(int drum, int what) {
        if (drum < 0 || drum >= paper.drums.size() || what < 0 || what > 2) {
            return -1;
        }
        Drum d = paper.drums.get(drum);
        return what == 0 ? d.bits() : what == 1 ? d.at : d.stopped ? 1 : 0;
    }

    private int count(int what) {
        int strike = 0;
        int pins = 0;
        for (Drum d : s.drums) {
            strike += d.strikes(0) ? 1 : 0;
            pins += d.pinCount();
        }
        int[] all = {s.drums.size(), strike, pins, s.heard.size(), s.laws.size(), past.size(), tape.length(),
            refused[1], refused[2], refused[3], refused[5], refused[6], s.force, s.hour, s.slips, s.mood};
        return what < 0 || what >= all.length ? -1 : all[what];
    }
}
