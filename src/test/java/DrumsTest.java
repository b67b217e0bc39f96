/** Promises 1 to 5, 14 to 19: drums, terms, laws in force and changes that can be undone. */
public final class DrumsTest {
    private static final Due DUE = new Due();

    public static void main(String[] args) {
        aNewObject();
        drum();
        of();
        asks();
        asksWords();
        brokenLaws();
        terms();
        force();
        pin();
        shift();
        stop();
        pass();
        passDrops();
        undo();
        undoKeepsSixteen();
        DUE.end();
    }

    private static void aNewObject() {
        OrganDrums x = new OrganDrums();
        int[] counts = {0, 0, 0, 0, 0, 0, 0, 0, 0, 0, 0, 0, -1, 0, 1, 0};
        for (int i = 0; i < counts.length; i++) {
            DUE.is(1, "count(" + i + ")", x.count(i), counts[i]);
        }
        DUE.is(1, "status()", x.status(), 0);
        DUE.is(1, "fault()", x.fault(), -1);
        DUE.is(1, "stopped()", x.stopped(), -1);
        DUE.is(1, "sleeves()", x.sleeves(), 0);
        DUE.is(1, "of(0, 0)", x.of(0, 0), -1);
        DUE.is(1, "drawn(0, 0)", x.drawn(0, 0), -1);
        DUE.is(1, "loud(0)", x.loud(0), 0);
        DUE.is(1, "pass()", x.pass(), 0);
        DUE.is(1, "back(0)", x.back(0), -2);
    }

    private static void drum() {
        OrganDrums x = new OrganDrums();
        int[][] wrong = {{0, 0, 0, 0}, {-1, 0, 0, 0}, {13, 0, 0, 0}, {3, -1, 0, 0}, {3, 4, 0, 0}, {3, 0, -1, 0},
            {3, 0, 3, 0}, {3, 0, 0, -1}, {3, 0, 0, 8}, {12, 0, 0, 4096}, {1, 0, 0, 2}, {3, 0, 0, Integer.MIN_VALUE},
            {Integer.MAX_VALUE, 0, 0, 0}, {32, 0, 0, 0}, {33, 0, 0, 1}};
        for (int[] a : wrong) {
            DUE.is(2, Calls.told("drum", a), x.drum(a[0], a[1], a[2], a[3]), -1);
        }
        DUE.is(2, "count(0)", x.count(0), 0);
        DUE.is(2, "drum(12, 3, 11, 4095)", x.drum(12, 3, 11, 4095), 0);
        DUE.is(2, "drum(1, 0, 0, 1)", x.drum(1, 0, 0, 1), 1);
        x.stop(0);
        DUE.is(2, "drum(3, 0, 3, 0)", x.drum(3, 0, 3, 0), -1);
        DUE.is(2, "a refused drum leaves what can be undone", x.count(5), 1);
        for (int i = 2; i < 6; i++) {
            DUE.is(2, "drum(2, 0, 0, 0)", x.drum(2, 0, 0, 0), i);
        }
        DUE.is(2, "behind drum() nothing can be undone", x.count(5), 0);
        DUE.is(2, "drum(2, 0, 0, 0)", x.drum(2, 0, 0, 0), -5);
        DUE.is(2, "status()", x.status(), -5);
        DUE.is(2, "drum(2, 0, 2, 0)", x.drum(2, 0, 2, 0), -1);
        DUE.is(2, "of(0, 3)", x.of(0, 3), 4095);
        DUE.is(2, "of(2, 4)", x.of(2, 4), 0);
    }

    private static void of() {
        OrganDrums x = new OrganDrums();
        x.drum(5, 2, 3, 9);
        int[] all = {5, 2, 3, 9, 0, 1};
        for (int i = 0; i < all.length; i++) {
            DUE.is(3, "of(0, " + i + ")", x.of(0, i), all[i]);
        }
        DUE.is(3, "of(0, -1)", x.of(0, -1), -1);
        DUE.is(3, "of(0, 6)", x.of(0, 6), -1);
        DUE.is(3, "of(1, 0)", x.of(1, 0), -1);
        DUE.is(3, "of(-1, 0)", x.of(-1, 0), -1);
        x.stop(0);
        DUE.is(3, "of(0, 4)", x.of(0, 4), 1);
        DUE.is(3, "of(0, 5)", x.of(0, 5), 0);
        x.stop(0);
        x.shift(0, 1);
        DUE.is(3, "of(0, 5)", x.of(0, 5), 0);
        x.shift(0, 1);
        DUE.is(3, "of(0, 2)", x.of(0, 2), 0);
        DUE.is(3, "of(0, 5)", x.of(0, 5), 1);
    }

    private static void asks() {
        OrganDrums x = new OrganDrums();
        x.drum(6, 1, 0, 3);
        x.drum(2, 0, 0, 0);
        DUE.is(4, "asks without a law", x.asks(0, 5, 0), 1);
        DUE.is(4, "asks without a law", x.asks(0, 5, 1), 0);
        DUE.is(4, "asks without a law", x.asks(0, 5, 2), 0);
        Due.inForce(x, "sounds beat*2; sounds 5 if beat=3; drops if kind=1 and beat<2; bars if beat>4; "
                + "drops if long=2");
        int[] sounds = {0, 2, 4, 5, 8, 9};
        for (int b = 0; b < 6; b++) {
            DUE.is(4, "asks(0, " + b + ", 0)", x.asks(0, b, 0), sounds[b]);
            DUE.is(4, "asks(0, " + b + ", 1)", x.asks(0, b, 1), b < 2 ? 1 : 0);
            DUE.is(4, "asks(0, " + b + ", 2)", x.asks(0, b, 2), b > 4 ? 1 : 0);
        }
        DUE.is(4, "asks(1, 1, 1)", x.asks(1, 1, 1), 1);
        DUE.is(4, "asks(0, 6, 0)", x.asks(0, 6, 0), -1);
        DUE.is(4, "asks(0, -1, 0)", x.asks(0, -1, 0), -1);
        DUE.is(4, "asks(2, 0, 0)", x.asks(2, 0, 0), -1);
        DUE.is(4, "asks(-1, 0, 0)", x.asks(-1, 0, 0), -1);
        DUE.is(4, "asks(0, 0, 3)", x.asks(0, 0, 3), -1);
        DUE.is(4, "asks(0, 0, -1)", x.asks(0, 0, -1), -1);
        Due.inForce(x, "sounds 0-1");
        DUE.is(4, "asks(0, 0, 0), the nearest", x.asks(0, 0, 0), 0);
        Due.inForce(x, "sounds 3; sounds 7 if beat = 1");
        DUE.is(4, "asks(0, 0, 0), the last that holds", x.asks(0, 0, 0), 3);
        DUE.is(4, "asks(0, 1, 0), the last that holds", x.asks(0, 1, 0), 7);
        Due.inForce(x, "sounds 4 if beat = 1");
        DUE.is(4, "asks(0, 0, 0), none holds", x.asks(0, 0, 0), 1);
    }

    private static void asksWords() {
        String[] words = {"drum", "long", "kind", "beat", "pins", "hour", "mood"};
        int[] values = {1, 5, 3, 4, 2, 8, 6};
        for (int i = 0; i < words.length; i++) {
            OrganDrums x = new OrganDrums();
            x.drum(1, 0, 0, 0);
            x.drum(5, 3, 0, 20);
            x.terms(0, 8);
            x.terms(2, 6);
            Due.inForce(x, "sounds " + words[i]);
            DUE.is(4, "asks(1, 4, 0) by " + words[i], x.asks(1, 4, 0), values[i]);
        }
        String[] sums = {"7-2-1", "2+3*2", "[2+3]*1", "7/2", "[0-7]/2+5", "[0-7]%2+5", "7%4*2", "8/2/2", "9-[2-1]"};
        int[] due = {4, 8, 5, 3, 2, 4, 6, 2, 8};
        for (int i = 0; i < sums.length; i++) {
            OrganDrums x = new OrganDrums();
            x.drum(1, 0, 0, 0);
            Due.inForce(x, "sounds " + sums[i]);
            DUE.is(4, "asks(0, 0, 0) by " + sums[i], x.asks(0, 0, 0), due[i]);
        }
        String[] tests = {"1<2", "2<2", "2>1", "2>2", "2=2", "2=1", "not 1=1", "not not 1=1", "1=1 or 1=2 and 1=2",
            "(1=1 or 1=2) and 1=2", "1=2 or 1=1", "1=2 or 1=2", "1=1 and 1=1", "not (1=2 or 1=2)",
            "not 1=2 and 1=1", "1=2 and 1=1 or 1=1"};
        int[] so = {1, 0, 1, 0, 1, 0, 0, 1, 1, 0, 1, 0, 1, 1, 1, 1};
        for (int i = 0; i < tests.length; i++) {
            OrganDrums x = new OrganDrums();
            x.drum(1, 0, 0, 0);
            Due.inForce(x, "bars if " + tests[i]);
            DUE.is(4, "asks(0, 0, 2) by " + tests[i], x.asks(0, 0, 2), so[i]);
        }
    }

    private static void brokenLaws() {
        String billion = "1000*1000*1000";
        String[] tests = {"1/0=0", "1%0=0", "not 1/0=0", billion + "=" + billion, billion + "+1>0",
            "0-" + billion + "<0", "0-" + billion + "-1<0", "1=1 or 1/0=0", "1/0=0 or 1=1", "1=2 and 1/0=0 or 1=1", "1/0=0 and 1=2 or 1=1",
            "1=2 or 1/0=0", "1=1 and 1/0=0", "not (1=2 and 1/0=0)", billion + "*2/2>0", "[1/[1-1]]*0=0"};
        int[] so = {0, 0, 0, 1, 0, 1, 0, 1, 0, 1, 0, 0, 0, 1, 0, 0};
        for (int i = 0; i < tests.length; i++) {
            OrganDrums x = new OrganDrums();
            x.drum(1, 0, 0, 0);
            Due.inForce(x, "bars if " + tests[i]);
            DUE.is(4, "asks(0, 0, 2) by " + tests[i], x.asks(0, 0, 2), so[i]);
        }
        OrganDrums x = new OrganDrums();
        x.drum(3, 0, 0, 0);
        Due.inForce(x, "sounds 6; sounds 8/beat; sounds 3 if 1/[beat-1]=2");
        DUE.is(4, "a broken sum does not hold", x.asks(0, 0, 0), 6);
        DUE.is(4, "a broken test does not hold", x.asks(0, 1, 0), 8);
        DUE.is(4, "asks(0, 2, 0)", x.asks(0, 2, 0), 4);
    }

    private static void terms() {
        OrganDrums x = new OrganDrums();
        x.drum(2, 0, 0, 0);
        DUE.is(5, "terms(0, 999)", x.terms(0, 999), 0);
        DUE.is(5, "terms(0, 0)", x.terms(0, 0), 999);
        DUE.is(5, "terms(1, 10)", x.terms(1, 10), 1);
        DUE.is(5, "terms(1, 0)", x.terms(1, 0), 10);
        DUE.is(5, "terms(2, 9)", x.terms(2, 9), 0);
        DUE.is(5, "terms(2, 3)", x.terms(2, 3), 9);
        x.stop(0);
        int[][] wrong = {{0, 1000}, {0, -1}, {1, 11}, {1, -1}, {2, 10}, {2, -1}, {3, 0}, {-1, 0}};
        for (int[] a : wrong) {
            DUE.is(5, Calls.told("terms", a), x.terms(a[0], a[1]), -1);
        }
        DUE.is(5, "a refused one leaves what can be undone", x.count(5), 1);
        DUE.is(5, "count(7)", x.count(7), 8);
        DUE.is(5, "terms(1, 5)", x.terms(1, 5), 0);
        DUE.is(5, "nothing ahead of it can be undone", x.count(5), 0);
        DUE.is(5, "count(13)", x.count(13), 0);
        DUE.is(5, "count(14)", x.count(14), 5);
        DUE.is(5, "count(15)", x.count(15), 3);
    }

    private static void force() {
        OrganDrums x = new OrganDrums();
        DUE.is(14, "force(-1)", x.force(-1), -1);
        DUE.is(14, "status()", x.status(), 0);
        DUE.is(14, "force(0)", x.force(0), -2);
        DUE.is(14, "status()", x.status(), -2);
        Due.law(x, "sounds 3");
        Due.law(x, "sounds 4");
        x.drum(1, 0, 0, 1);
        DUE.is(14, "a law is not in force yet", x.loud(0), 1);
        x.stop(0);
        x.stop(0);
        DUE.is(14, "force(1)", x.force(1), -1);
        DUE.is(14, "loud(0)", x.loud(0), 4);
        DUE.is(14, "force(0)", x.force(0), 1);
        DUE.is(14, "loud(0)", x.loud(0), 3);
        DUE.is(14, "force(2)", x.force(2), -2);
        DUE.is(14, "force(-2)", x.force(-2), -2);
        DUE.is(14, "count(12)", x.count(12), 0);
        DUE.is(14, "it leaves what can be undone", x.count(5), 2);
        DUE.is(14, "force(-1)", x.force(-1), 0);
        DUE.is(14, "loud(0)", x.loud(0), 1);
        DUE.is(14, "undo()", x.undo(), 2);
        DUE.is(14, "what was undone leaves the law", x.count(12), -1);
    }

    private static void pin() {
        OrganDrums x = new OrganDrums();
        x.drum(4, 0, 0, 2);
        DUE.is(15, "pin(0, 0)", x.pin(0, 0), 1);
        DUE.is(15, "pin(0, 1)", x.pin(0, 1), 0);
        DUE.is(15, "of(0, 3)", x.of(0, 3), 1);
        DUE.is(15, "pin(0, 3)", x.pin(0, 3), 1);
        DUE.is(15, "pin(0, 4)", x.pin(0, 4), -3);
        DUE.is(15, "pin(0, 11)", x.pin(0, 11), -3);
        DUE.is(15, "pin(0, 12)", x.pin(0, 12), -1);
        DUE.is(15, "pin(0, -1)", x.pin(0, -1), -1);
        DUE.is(15, "pin(1, 12)", x.pin(1, 12), -1);
        DUE.is(15, "pin(1, 11)", x.pin(1, 11), -2);
        DUE.is(15, "pin(-1, 0)", x.pin(-1, 0), -2);
        DUE.is(15, "count(5)", x.count(5), 3);
        Due.inForce(x, "bars if beat < 2; bars if pins > 2");
        DUE.is(15, "a pin at a barred beat can be drawn", x.pin(0, 0), 0);
        DUE.is(15, "but not put", x.pin(0, 0), -3);
        DUE.is(15, "pin(0, 2)", x.pin(0, 2), 1);
        x.force(-1);
        DUE.is(15, "pin(0, 1)", x.pin(0, 1), 1);
        x.force(0);
        DUE.is(15, "by its pins it is barred, but can be drawn", x.pin(0, 3), 0);
        DUE.is(15, "pins is how many it has", x.pin(0, 3), 1);
        DUE.is(15, "of(0, 3)", x.of(0, 3), 14);
        DUE.is(15, "pin(0, 0)", x.pin(0, 0), -3);
    }

    private static void shift() {
        OrganDrums x = new OrganDrums();
        x.drum(3, 0, 1, 0);
        x.drum(12, 0, 11, 0);
        DUE.is(16, "shift(0, 1)", x.shift(0, 1), 2);
        DUE.is(16, "shift(0, 11)", x.shift(0, 11), 1);
        DUE.is(16, "shift(1, 11)", x.shift(1, 11), 10);
        x.stop(0);
        DUE.is(16, "a stopped drum is shifted, too", x.shift(0, 2), 0);
        DUE.is(16, "shift(0, 0)", x.shift(0, 0), -1);
        DUE.is(16, "shift(0, 12)", x.shift(0, 12), -1);
        DUE.is(16, "shift(0, -1)", x.shift(0, -1), -1);
        DUE.is(16, "shift(2, 12)", x.shift(2, 12), -1);
        DUE.is(16, "shift(2, 1)", x.shift(2, 1), -2);
        DUE.is(16, "shift(-1, 1)", x.shift(-1, 1), -2);
        DUE.is(16, "of(0, 2)", x.of(0, 2), 0);
    }

    private static void stop() {
        OrganDrums x = new OrganDrums();
        DUE.is(17, "stop(0)", x.stop(0), -2);
        x.drum(3, 0, 0, 1);
        DUE.is(17, "stop(0)", x.stop(0), 1);
        DUE.is(17, "count(1)", x.count(1), 0);
        DUE.is(17, "stop(0)", x.stop(0), 0);
        DUE.is(17, "count(1)", x.count(1), 1);
        DUE.is(17, "stop(1)", x.stop(1), -2);
        DUE.is(17, "stop(-1)", x.stop(-1), -2);
        DUE.is(17, "stop(2147483647)", x.stop(Integer.MAX_VALUE), -2);
    }

    private static void pass() {
        OrganDrums x = new OrganDrums();
        x.drum(3, 0, 2, 4);
        x.drum(2, 0, 0, 3);
        x.drum(4, 0, 3, 8);
        x.stop(2);
        DUE.is(18, "pass()", x.pass(), 2);
        DUE.is(18, "0 behind the last", x.of(0, 2), 0);
        DUE.is(18, "of(1, 2)", x.of(1, 2), 1);
        DUE.is(18, "a stopped drum stays", x.of(2, 2), 3);
        DUE.is(18, "count(13)", x.count(13), 1);
        DUE.is(18, "pass()", x.pass(), 1);
        x.terms(0, 998);
        DUE.is(18, "pass()", x.pass(), 1);
        DUE.is(18, "count(13)", x.count(13), 999);
        DUE.is(18, "pass()", x.pass(), -3);
        DUE.is(18, "status()", x.status(), -3);
        DUE.is(18, "a refused one leaves the drums", x.of(1, 2), 1);
        DUE.is(18, "count(5)", x.count(5), 1);
    }

    private static void passDrops() {
        OrganDrums x = new OrganDrums();
        x.drum(2, 0, 0, 3);
        x.drum(2, 1, 0, 1);
        x.drum(2, 1, 1, 1);
        x.drum(2, 1, 0, 1);
        x.stop(3);
        Due.inForce(x, "drops if kind=1 and hour=0; sounds 3 if hour=0; sounds 5 if hour=1");
        DUE.is(18, "pass()", x.pass(), 6);
        DUE.is(18, "a pin that does not drop stays", x.of(0, 3), 3);
        DUE.is(18, "one that struck drops", x.of(1, 3), 0);
        DUE.is(18, "one that did not strike stays", x.of(2, 3), 1);
        DUE.is(18, "one of a stopped drum stays", x.of(3, 3), 1);
        DUE.is(18, "pass()", x.pass(), 10);
        DUE.is(18, "at hour 1 none drops", x.of(2, 3), 1);
    }

    private static void undo() {
        OrganDrums x = new OrganDrums();
        DUE.is(19, "undo()", x.undo(), -3);
        x.drum(2, 0, 0, 1);
        x.drum(3, 0, 0, 2);
        Due.inForce(x, "drops");
        x.pin(1, 0);
        x.shift(0, 1);
        x.shift(0, 1);
        x.stop(1);
        x.stop(1);
        x.pass();
        DUE.is(19, "of(0, 3)", x.of(0, 3), 0);
        DUE.is(19, "undo()", x.undo(), 3);
        DUE.is(19, "pins are as they were", x.of(0, 3), 1);
        DUE.is(19, "pins are as they were", x.of(1, 3), 3);
        DUE.is(19, "beats are as they were", x.of(1, 2), 0);
        DUE.is(19, "the hour is as it was", x.count(13), 0);
        DUE.is(19, "undo()", x.undo(), 2);
        DUE.is(19, "who is stopped is as it was", x.of(1, 4), 1);
        DUE.is(19, "undo()", x.undo(), 2);
        DUE.is(19, "undo()", x.undo(), 1);
        DUE.is(19, "of(0, 2)", x.of(0, 2), 1);
        DUE.is(19, "undo()", x.undo(), 1);
        DUE.is(19, "undo()", x.undo(), 0);
        DUE.is(19, "of(1, 3)", x.of(1, 3), 2);
        DUE.is(19, "undo()", x.undo(), -3);
        DUE.is(19, "status()", x.status(), -3);
        DUE.is(19, "count(9)", x.count(9), 2);
        x.stop(0);
        x.image(0);
        x.heard(0, 1);
        x.forget();
        x.days(0, 3);
        Due.law(x, "bars");
        DUE.is(19, "these leave what can be undone", x.count(5), 1);
        x.back(0);
        DUE.is(19, "nothing behind back()", x.count(5), 0);
        x.stop(0);
        Calls.tape(x, "x");
        x.row();
        DUE.is(19, "nothing behind row(), though no drum came", x.count(5), 0);
        x.stop(0);
        x.row();
        x.back(1);
        DUE.is(19, "refused ones leave it", x.count(5), 1);
    }

    private static void undoKeepsSixteen() {
        OrganDrums x = new OrganDrums();
        x.drum(12, 0, 0, 0);
        for (int i = 1; i <= 20; i++) {
            x.shift(0, 1);
            DUE.is(19, "count(5)", x.count(5), Math.min(i, 16));
        }
        for (int i = 19; i >= 4; i--) {
            DUE.is(19, "undo()", x.undo(), 1);
            DUE.is(19, "of(0, 2)", x.of(0, 2), i % 12);
        }
        DUE.is(19, "undo()", x.undo(), -3);
        for (int i = 0; i < 16; i++) {
            x.stop(0);
        }
        DUE.is(19, "orders run more than are kept", Due.orders(x, "pass times 20; shift 0 by 1"), 21);
        DUE.is(19, "undo()", x.undo(), 1);
        for (int i = 0; i < 15; i++) {
            DUE.is(19, "undo()", x.undo(), 3);
        }
        DUE.is(19, "undo()", x.undo(), -3);
        DUE.is(19, "count(13)", x.count(13), 5);
    }
}
