import java.nio.charset.StandardCharsets;
import java.util.Arrays;

/** Calls of the class by their names, so that tests can keep, tell and compare them. */
final class Calls {
    /** Every call of the face with how many numbers it takes. */
    static final String[] NAMES = {"drum", "of", "asks", "terms", "feed", "end", "row", "sleeves", "law", "orders",
        "fault", "stopped", "force", "pin", "shift", "stop", "pass", "undo", "loud", "round", "when", "often", "alone",
        "loudest", "quiet", "most", "least", "never", "add", "tune", "heard", "forget", "canBe", "listen", "few",
        "compare", "days", "drawn", "image", "back", "count", "status"};
    static final int[] NUMBERS = {4, 2, 3, 2, 5, 1, 0, 0, 0, 0, 0, 0, 1, 2, 2, 1, 0, 0, 1, 0, 1, 1, 1, 1, 1, 2, 2, 1, 2,
        0, 2, 0, 0, 1, 2, 1, 2, 2, 1, 1, 1, 0};

    private Calls() {
    }

    static long call(OrganDrums x, String name, int... a) {
        switch (name) {
            case "drum": return x.drum(a[0], a[1], a[2], a[3]);
            case "of": return x.of(a[0], a[1]);
            case "asks": return x.asks(a[0], a[1], a[2]);
            case "terms": return x.terms(a[0], a[1]);
            case "feed": return x.feed(a[0], a[1], a[2], a[3], a[4]);
            case "end": return x.end(a[0]);
            case "row": return x.row();
            case "sleeves": return x.sleeves();
            case "law": return x.law();
            case "orders": return x.orders();
            case "fault": return x.fault();
            case "stopped": return x.stopped();
            case "force": return x.force(a[0]);
            case "pin": return x.pin(a[0], a[1]);
            case "shift": return x.shift(a[0], a[1]);
            case "stop": return x.stop(a[0]);
            case "pass": return x.pass();
            case "undo": return x.undo();
            case "loud": return x.loud(a[0]);
            case "round": return x.round();
            case "when": return x.when(a[0]);
            default: return question(x, name, a);
        }
    }

    private static long question(OrganDrums x, String name, int[] a) {
        switch (name) {
            case "often": return x.often(a[0]);
            case "alone": return x.alone(a[0]);
            case "loudest": return x.loudest(a[0]);
            case "quiet": return x.quiet(a[0]);
            case "most": return x.most(a[0], a[1]);
            case "least": return x.least(a[0], a[1]);
            case "never": return x.never(a[0]);
            case "add": return x.add(a[0], a[1]);
            case "tune": return x.tune();
            case "heard": return x.heard(a[0], a[1]);
            case "forget": return x.forget();
            case "canBe": return x.canBe();
            case "listen": return x.listen(a[0]);
            case "few": return x.few(a[0], a[1]);
            case "compare": return x.compare(a[0]);
            case "days": return x.days(a[0], a[1]);
            case "drawn": return x.drawn(a[0], a[1]);
            case "image": return x.image(a[0]);
            case "back": return x.back(a[0]);
            case "count": return x.count(a[0]);
            case "status": return x.status();
            default: throw new IllegalArgumentException(name);
        }
    }

    /** The numbers of a call that is written as a row: all from this place on. */
    static int[] numbers(Object[] row, int from) {
        int[] numbers = new int[Math.max(0, row.length - from)];
        for (int i = 0; i < numbers.length; i++) {
            numbers[i] = (Integer) row[i + from];
        }
        return numbers;
    }

    /** The bytes of a text as the numbers that feed() takes, twenty bytes a row, filled up with noughts. */
    static int[][] rows(byte[] bytes) {
        int[][] rows = new int[(bytes.length + 19) / 20][5];
        for (int i = 0; i < bytes.length; i++) {
            rows[i / 20][i % 20 / 4] |= (bytes[i] & 255) << 24 - i % 4 * 8;
        }
        return rows;
    }

    static byte[] bytes(String text) {
        return text.getBytes(StandardCharsets.ISO_8859_1);
    }

    /** Puts a text on the tape, which is empty. */
    static void tape(OrganDrums x, String text) {
        for (int[] row : rows(bytes(text))) {
            x.feed(row[0], row[1], row[2], row[3], row[4]);
        }
        x.end(text.length());
    }

    static String told(String name, int... a) {
        String numbers = Arrays.toString(a);
        return name + "(" + numbers.substring(1, numbers.length() - 1) + ")";
    }
}
