import java.lang.management.ManagementFactory;

/**
 * How much room objects and calls take: all calls of a run live in one room of some 600,000 objects with 7.3 million
 * fields and elements, of which nothing is given back.
 */
public final class RoomTest {
    private static final com.sun.management.ThreadMXBean BEAN =
            (com.sun.management.ThreadMXBean) ManagementFactory.getThreadMXBean();
    /** What asking the bean itself may take: far less than one object for each of the calls. */
    private static final long MEASURING = 500;
    private static int wrong = 0;
    private static OrganDrums kept = null;

    private static long allocated() {
        return BEAN.getThreadAllocatedBytes(Thread.currentThread().getId());
    }

    private static void atMost(String told, long got, long most) {
        System.out.println(told + ": " + got + " bytes");
        if (got > most) {
            wrong++;
            System.out.println(told + " should take at most " + most);
        }
    }

    private static OrganDrums full() {
        OrganDrums x = new OrganDrums();
        int[] lengths = {12, 11, 10, 9, 8, 7};
        for (int length : lengths) {
            x.drum(length, 1, 0, (1 << length) - 1 & 0xb6d);
        }
        Due.inForce(x, "sounds beat%3+1; drops if pins>9; bars if hour=7");
        return x;
    }

    private static long questions(OrganDrums x) {
        long sum = 0;
        for (int i = 0; i < 12; i++) {
            sum += x.loud(i) + x.round() + x.when(63) + x.often(63) + x.alone(i % 6) + x.loudest(i % 3) + x.quiet(i % 2);
            sum += x.most(i % 6, 0) + x.least(i % 6, 1) + x.never(1) + x.add(63, 0) + x.tune() + x.canBe() + x.listen(0);
            sum += x.few(20, 99) + x.compare(0) + x.compare(-1) + x.asks(0, i, 0) + x.of(0, 5) + x.count(1);
        }
        return sum;
    }

    private static long changes(OrganDrums x) {
        long sum = 0;
        for (int i = 0; i < 20; i++) {
            sum += x.pin(0, i % 12) + x.shift(1, 5) + x.stop(2) + x.pass() + x.undo() + x.days(i, 60) + x.image(i % 2);
            sum += x.heard(i, 1) + x.forget() + x.terms(2, 3) + x.back(i % 2) + x.force(0) + x.status();
        }
        return sum;
    }

    private static long texts(OrganDrums x, int[][] rows, int length) {
        long sum = 0;
        for (int i = 0; i < 20; i++) {
            for (int[] row : rows) {
                sum += x.feed(row[0], row[1], row[2], row[3], row[4]);
            }
            sum += x.end(length) + x.orders() + x.fault() + x.stopped();
        }
        return sum;
    }

    public static void main(String[] args) {
        String text = "pass times 20 if loud + at 0 > pins 5 - 9; shift 0 by 1 times 20; stop 1 times 20; pin 0 at hour % 9";
        int[][] rows = Calls.rows(Calls.bytes(text));
        OrganDrums x = full();
        // Once ahead, so that what the machine itself makes is not counted.
        long sum = questions(x) + changes(x) + texts(x, rows, text.length()) + allocated();
        long before = allocated();
        kept = new OrganDrums();
        long ahead = allocated();
        atMost("an object", ahead - before, 40_000);
        before = allocated();
        sum += questions(x);
        atMost("240 questions", allocated() - before, MEASURING);
        before = allocated();
        sum += changes(x);
        atMost("260 changes", allocated() - before, MEASURING);
        before = allocated();
        sum += texts(x, rows, text.length());
        atMost("20 texts of orders", allocated() - before, MEASURING);
        Calls.tape(x, "sounds 1" + "+1".repeat(49) + ";drops".repeat(11));
        before = allocated();
        sum += x.law();
        atMost("a law", allocated() - before, 2_000);
        System.out.println("(" + sum + ", " + kept.count(0) + ")");
        if (wrong != 0) {
            System.exit(1);
        }
    }
}
