import java.util.ArrayList;
import java.util.List;
import java.util.Random;

/** Random runs, each call compared with what the Model answers. Promises 1 to 43. */
public final class ModelTest {
    private static final int RUNS = 1500;
    private static final int CALLS = 512;

    private final Random random;
    private final OrganDrums x = new OrganDrums();
    private final Model model = new Model();
    private final List<String> told = new ArrayList<>();
    private int calls = 0;
    private boolean wrong = false;
    /** How long drums are at most in this run: rounds of long ones take long. */
    private final int longest;
    private final int[] weights = new int[Calls.NAMES.length];

    private ModelTest(long seed) {
        random = new Random(seed);
        longest = random.nextInt(8) == 0 ? 12 : 2 + random.nextInt(5);
        for (int i = 0; i < weights.length; i++) {
            // Some calls are left out of a run, so that what they would clear can grow.
            weights[i] = random.nextInt(4) == 0 ? 0 : 1 + random.nextInt(6);
        }
    }

    private int upTo(int n) {
        return random.nextInt(n + 1);
    }

    private boolean oneIn(int n) {
        return random.nextInt(n) == 0;
    }

    private long both(String name, int... a) {
        if (wrong || calls >= CALLS) {
            return 0;
        }
        calls++;
        long want = model.call(name, a);
        long got;
        try {
            got = Calls.call(x, name, a);
        } catch (RuntimeException | StackOverflowError e) {
            wrong = true;
            told.add(Calls.told(name, a) + " threw " + e + ", due is " + want);
            return want;
        }
        told.add(Calls.told(name, a) + " answered " + got + (got == want ? "" : ", due is " + want));
        wrong = got != want;
        return want;
    }

    private void text(String text) {
        for (int[] row : Calls.rows(Calls.bytes(text))) {
            both("feed", row);
        }
        both("end", text.length());
    }

    private String pick(String... texts) {
        return texts[random.nextInt(texts.length)];
    }

    private String blank() {
        return oneIn(8) ? "  " : " ";
    }

    private String number() {
        int sort = random.nextInt(12);
        if (sort == 0) {
            return "" + upTo(1001);
        }
        if (sort == 1) {
            return "00" + upTo(12);
        }
        return sort == 2 ? "1000" : "" + upTo(12);
    }

    private String part(boolean law, int depth) {
        if (depth > 0 && oneIn(6)) {
            return "[" + sum(law, depth - 1) + "]";
        }
        if (oneIn(2)) {
            return number();
        }
        if (law) {
            return pick("drum", "long", "kind", "beat", "pins", "hour", "mood");
        }
        String of = " " + upTo(oneIn(20) ? 6 : 5);
        return pick("hour", "done", "latest", "loud", "all", "at" + of, "pins" + of);
    }

    private String sum(boolean law, int depth) {
        StringBuilder sum = new StringBuilder(part(law, depth));
        while (oneIn(3)) {
            sum.append(pick("+", "-", "*", "/", "%", " * ", " - ")).append(part(law, depth));
        }
        return sum.toString();
    }

    private String plain(boolean law, int depth) {
        if (oneIn(6)) {
            return "not " + plain(law, depth);
        }
        if (depth > 0 && oneIn(5)) {
            return "(" + test(law, depth - 1) + ")";
        }
        return sum(law, depth) + pick("<", ">", "=") + sum(law, depth);
    }

    private String test(boolean law, int depth) {
        StringBuilder test = new StringBuilder(plain(law, depth));
        while (oneIn(3)) {
            test.append(pick(" and ", " or ")).append(plain(law, depth));
        }
        return test.toString();
    }

    private String smallDrum() {
        return oneIn(3) ? sum(false, 1) : "" + upTo(3);
    }

    private String clause(boolean law) {
        int depth = oneIn(10) ? 9 : 2;
        String head;
        if (law) {
            head = oneIn(3) ? pick("drops", "bars") : "sounds " + sum(true, depth);
        } else {
            head = switch (random.nextInt(5)) {
                case 0 -> "pin " + smallDrum() + " at " + (oneIn(2) ? sum(false, depth) : "" + upTo(longest));
                case 1 -> "shift " + smallDrum() + " by " + (oneIn(2) ? sum(false, depth) : "" + (1 + upTo(4)));
                case 2 -> "stop " + smallDrum();
                default -> "pass";
            };
            if (oneIn(3)) {
                head += " times" + blank() + (oneIn(9) ? upTo(22) : 1 + upTo(4));
            }
        }
        return oneIn(2) ? head : head + " if " + test(law, depth);
    }

    /** A text after the grammar, now and then with a byte or more changed. */
    private String anyText(boolean law) {
        int clauses = oneIn(12) ? 10 + upTo(4) : 1 + upTo(3);
        StringBuilder text = new StringBuilder();
        for (int i = 0; i < clauses; i++) {
            text.append(i == 0 ? "" : oneIn(2) ? "; " : ";").append(clauses > 9 ? pick(law ? "drops" : "pass",
                    clause(law)) : clause(law));
        }
        if (oneIn(4)) {
            for (int i = upTo(2); i >= 0 && text.length() > 0; i--) {
                spoil(text);
            }
        }
        if (oneIn(15)) {
            text.insert(0, "   ").append("  ");
        }
        if (text.length() > 400) {
            text.setLength(400);
        }
        return text.toString();
    }

    private void spoil(StringBuilder text) {
        int at = random.nextInt(text.length());
        switch (random.nextInt(4)) {
            case 0 -> text.deleteCharAt(at);
            case 1 -> text.insert(at, pick(" ", "not ", "(", ")", "[", "]", ";", "if ", "0", "or ", "and "));
            case 2 -> text.setCharAt(at, (char) random.nextInt(256));
            default -> text.setLength(at);
        }
    }

    /** Texts at the limits: parts, brackets, clauses, rows of "not". */
    private String limitText(boolean law) {
        String head = law ? "sounds " : "stop ";
        switch (random.nextInt(5)) {
            case 0:
                return head + "1" + "+1".repeat(46 + upTo(6));
            case 1: {
                int n = 6 + upTo(4);
                return head + "[".repeat(n) + "1" + "]".repeat(n);
            }
            case 2: {
                int round = upTo(9);
                int square = upTo(9);
                return (law ? "drops if " : "pass if ") + "not (".repeat(round) + "[".repeat(square) + "1"
                        + "]".repeat(square) + "=1" + ")".repeat(round);
            }
            case 3:
                return (law ? "drops if " : "pass if ") + "not ".repeat(upTo(90)) + "1=" + upTo(1);
            default:
                return ("" + (law ? "bars" : "pass") + ";").repeat(10 + upTo(3)) + pick("", law ? "drops" : "pass");
        }
    }

    private int anyNumber() {
        return switch (random.nextInt(6)) {
            case 0 -> random.nextInt();
            case 1 -> Integer.MIN_VALUE;
            case 2 -> Integer.MAX_VALUE;
            case 3 -> -1 - upTo(3);
            default -> upTo(70);
        };
    }

    private int aDrum() {
        return oneIn(30) ? anyNumber() : upTo(oneIn(5) ? 5 : 3);
    }

    private int aSet() {
        return oneIn(30) ? anyNumber() : oneIn(3) ? upTo(64) : upTo(15);
    }

    private int aWhat(int most) {
        return oneIn(25) ? anyNumber() : upTo(most);
    }

    private void addDrum() {
        int length = 1 + random.nextInt(longest);
        both("drum", length, upTo(3), random.nextInt(length), random.nextInt(1 << length));
    }

    private void rowOfDrums() {
        StringBuilder row = new StringBuilder();
        for (int i = upTo(4); i >= 0; i--) {
            int length = 1 + random.nextInt(longest);
            row.append((char) (oneIn(9) ? upTo(15) : length)).append((char) (oneIn(9) ? upTo(5) : upTo(3)))
                    .append((char) random.nextInt(length + (oneIn(9) ? 1 : 0)))
                    .append((char) random.nextInt(oneIn(9) ? 256 : Math.min(256, 1 << length)));
        }
        row.setLength(row.length() - (oneIn(5) ? upTo(3) : 0));
        text(row.toString());
        both("row");
        both("sleeves");
    }

    private int[] numbersFor(String name) {
        return switch (name) {
            case "of" -> new int[] {aDrum(), aWhat(5)};
            case "asks" -> new int[] {aDrum(), aWhat(longest), aWhat(2)};
            case "terms" -> oneIn(2) ? new int[] {0, oneIn(4) ? 990 + upTo(10) : upTo(30)}
                    : new int[] {aWhat(2), aWhat(11)};
            case "end" -> new int[] {aWhat(60)};
            case "force" -> new int[] {oneIn(15) ? anyNumber() : upTo(4) - 1};
            case "pin" -> new int[] {aDrum(), aWhat(longest)};
            case "shift" -> new int[] {aDrum(), aWhat(12)};
            case "stop", "alone" -> new int[] {aDrum()};
            case "loud" -> new int[] {oneIn(4) ? 29990 + upTo(12) : aWhat(40)};
            case "when", "often" -> new int[] {aSet()};
            case "loudest" -> new int[] {aWhat(2)};
            case "quiet", "never", "listen", "image", "back" -> new int[] {aWhat(1)};
            case "most", "least" -> new int[] {aDrum(), aWhat(1)};
            case "add" -> new int[] {aSet(), aWhat(1)};
            case "heard" -> new int[] {oneIn(8) ? 97 + upTo(4) : aWhat(12), aWhat(1)};
            case "few" -> new int[] {aWhat(21), aWhat(100)};
            case "compare" -> new int[] {aWhat(4) - 1};
            case "days" -> new int[] {oneIn(6) ? 999998 + upTo(4) : oneIn(9) ? anyNumber() : upTo(1000000), aWhat(61)};
            case "drawn" -> new int[] {aDrum(), aWhat(2)};
            case "count" -> new int[] {aWhat(16)};
            default -> new int[0];
        };
    }

    private void step() {
        int sum = 0;
        for (int weight : weights) {
            sum += weight;
        }
        int draw = random.nextInt(sum);
        int i = 0;
        while (draw >= weights[i]) {
            draw -= weights[i];
            i++;
        }
        String name = Calls.NAMES[i];
        switch (name) {
            case "drum":
                if (oneIn(6)) {
                    both(name, aWhat(13), aWhat(4), aWhat(12), aWhat(4096));
                } else {
                    addDrum();
                }
                break;
            case "feed":
                both(name, anyNumber(), anyNumber(), anyNumber(), anyNumber(), anyNumber());
                if (oneIn(2)) {
                    both("end", 0);
                }
                break;
            case "row":
                rowOfDrums();
                break;
            case "law":
            case "orders": {
                boolean law = name.equals("law");
                both("end", 0);
                text(oneIn(12) ? limitText(law) : anyText(law));
                long answer = both(name);
                if (law && answer >= 0 && oneIn(2)) {
                    both("force", (int) answer);
                }
                both("fault");
                both("stopped");
                break;
            }
            default:
                both(name, numbersFor(name));
        }
        both("status");
    }

    /** Looks at all that can be asked cheaply, so that a wrong state is seen soon. */
    private void look() {
        for (int i = 0; i <= 15; i++) {
            both("count", i);
        }
        for (int d = 0; d < 6; d++) {
            both("of", d, 2 + upTo(3));
            both("drawn", d, upTo(2));
        }
    }

    private boolean run() {
        for (int i = upTo(5); i >= 0; i--) {
            addDrum();
        }
        while (calls < CALLS && !wrong) {
            step();
            if (oneIn(30)) {
                look();
            }
        }
        return !wrong;
    }

    public static void main(String[] args) {
        int runs = args.length > 0 ? Integer.parseInt(args[0]) : RUNS;
        long base = args.length > 1 ? Long.parseLong(args[1]) : 20261118L;
        int wrongRuns = 0;
        for (int i = 0; i < runs && wrongRuns < 3; i++) {
            ModelTest test = new ModelTest(base * 1000003L + i);
            if (!test.run()) {
                wrongRuns++;
                System.out.println("run " + i + ":");
                for (String call : test.told) {
                    System.out.println("  " + call);
                }
            }
        }
        System.out.println(wrongRuns == 0 ? "the class answered " + runs + " runs as the model does"
                : "the class did not answer as the model does");
        if (wrongRuns != 0) {
            System.exit(1);
        }
    }
}
