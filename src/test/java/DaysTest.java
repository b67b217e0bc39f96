/** Promises 38 to 43: days by draws, images, counts and the latest refusal. */
public final class DaysTest {
    private static final Due DUE = new Due();

    public static void main(String[] args) {
        days();
        daysEnd();
        daysUnderLaws();
        drawn();
        imagesKeep();
        imagesDiffer();
        imagesDoNotKeep();
        imagesKeepLaws();
        count();
        status();
        DUE.end();
    }

    private static OrganDrums three() {
        OrganDrums x = new OrganDrums();
        x.drum(3, 0, 0, 1);
        x.drum(12, 0, 0, 14);
        x.drum(5, 0, 4, 16);
        return x;
    }

    private static void drawn(OrganDrums x, int... due) {
        for (int i = 0; i < due.length; i++) {
            DUE.is(39, "drawn(" + i / 3 + ", " + i % 3 + ")", x.drawn(i / 3, i % 3), due[i]);
        }
    }

    /** The answers come from the draws, which were worked out by another program. */
    private static void days() {
        OrganDrums x = three();
        DUE.is(38, "days(0, 1)", x.days(0, 1), 1);
        drawn(x, 1, 2, 0, 14, 1, 0, 16, 0, 0);
        DUE.is(38, "days(0, 3)", x.days(0, 3), 4);
        drawn(x, 1, 1, 0, 14, 4, 0, 16, 3, 0);
        DUE.is(38, "days(0, 10)", x.days(0, 10), 7);
        drawn(x, 1, 0, 0, 14, 4, 1, 16, 2, 1);
        DUE.is(38, "days(1000000, 5)", x.days(1000000, 5), 2);
        drawn(x, 1, 2, 1, 14, 2, 1, 16, 1, 1);
        DUE.is(38, "days(7, 60)", x.days(7, 60), 37);
        drawn(x, 5, 0, 1, 239, 6, 1, 16, 0, 0);
        DUE.is(38, "on paper", x.count(13), 0);
        DUE.is(38, "on paper", x.of(0, 3), 1);
        DUE.is(38, "on paper", x.of(1, 2), 0);
        DUE.is(38, "on paper", x.count(5), 0);
        int[][] wrong = {{-1, 1}, {1000001, 1}, {0, 0}, {0, 61}, {0, -1}};
        for (int[] a : wrong) {
            DUE.is(38, Calls.told("days", a), x.days(a[0], a[1]), -1);
        }
        drawn(x, 5, 0, 1, 239, 6, 1, 16, 0, 0);
        OrganDrums y = new OrganDrums();
        DUE.is(38, "days(0, 1)", y.days(0, 1), -3);
        DUE.is(38, "days(0, 0)", y.days(0, 0), -1);
    }

    private static void daysEnd() {
        OrganDrums x = three();
        x.terms(0, 990);
        DUE.is(38, "days(7, 60)", x.days(7, 60), 7);
        drawn(x, 1, 0, 0, 14, 6, 1, 16, 3, 0);
        x.terms(0, 999);
        DUE.is(38, "days(7, 60)", x.days(7, 60), 0);
        DUE.is(38, "status()", x.status(), 0);
        drawn(x, 1, 0, 0, 14, 0, 0, 16, 4, 0);
    }

    private static void daysUnderLaws() {
        OrganDrums x = three();
        Due.inForce(x, "drops");
        DUE.is(38, "days(0, 10)", x.days(0, 10), 4);
        drawn(x, 0, 0, 0, 2, 4, 1, 0, 2, 1);
        DUE.is(38, "days(7, 60)", x.days(7, 60), 9);
        drawn(x, 0, 0, 1, 224, 6, 1, 0, 0, 0);
        // In the first hour one strikes, in the second one, in the third two: by the hour as it is then.
        Due.inForce(x, "sounds 2+hour");
        DUE.is(38, "days(0, 1)", x.days(0, 1), 2);
        DUE.is(38, "days(0, 2)", x.days(0, 2), 5);
        DUE.is(38, "days(0, 3)", x.days(0, 3), 13);
        // With one drum of 12 beats the first draws of seed 5 pin beat 4, unless it is barred.
        OrganDrums y = new OrganDrums();
        y.drum(12, 0, 0, 0);
        y.days(5, 1);
        drawn(y, 16, 1, 0);
        Due.inForce(y, "bars if beat=4");
        y.days(5, 1);
        drawn(y, 0, 1, 0);
        Due.inForce(y, "bars if hour=0");
        y.days(5, 1);
        drawn(y, 0, 1, 0);
        y.force(-1);
        y.pin(0, 4);
        y.force(0);
        y.days(5, 1);
        drawn(y, 0, 1, 0);
        DUE.is(38, "of(0, 3)", y.of(0, 3), 16);
    }

    private static void drawn() {
        OrganDrums x = new OrganDrums();
        DUE.is(39, "drawn(0, 0)", x.drawn(0, 0), -1);
        x.drum(3, 0, 0, 1);
        DUE.is(39, "ahead of any days()", x.drawn(0, 0), -1);
        x.days(0, 1);
        DUE.is(39, "drawn(0, 0)", x.drawn(0, 0), 1);
        DUE.is(39, "drawn(0, 1)", x.drawn(0, 1), 2);
        DUE.is(39, "drawn(0, 3)", x.drawn(0, 3), -1);
        DUE.is(39, "drawn(0, -1)", x.drawn(0, -1), -1);
        DUE.is(39, "drawn(1, 0)", x.drawn(1, 0), -1);
        DUE.is(39, "drawn(-1, 0)", x.drawn(-1, 0), -1);
        x.pin(0, 0);
        x.shift(0, 1);
        x.stop(0);
        DUE.is(39, "the latest days stay", x.drawn(0, 0), 1);
        DUE.is(39, "the latest days stay", x.drawn(0, 1), 2);
        DUE.is(39, "the latest days stay", x.drawn(0, 2), 0);
    }

    private static void imagesKeep() {
        OrganDrums x = new OrganDrums();
        DUE.is(41, "back(0)", x.back(0), -2);
        DUE.is(40, "image(2)", x.image(2), -1);
        DUE.is(40, "image(-1)", x.image(-1), -1);
        DUE.is(41, "back(2)", x.back(2), -1);
        DUE.is(41, "back(-1)", x.back(-1), -1);
        DUE.is(40, "image(1)", x.image(1), 0);
        x.drum(4, 2, 1, 6);
        x.terms(0, 5);
        x.terms(1, 6);
        x.terms(2, 7);
        x.heard(3, 1);
        Due.inForce(x, "sounds 8");
        x.stop(0);
        x.stop(0);
        DUE.is(40, "image(0)", x.image(0), 0);
        DUE.is(40, "image() leaves what can be undone", x.count(5), 2);
        x.pin(0, 0);
        x.shift(0, 1);
        x.stop(0);
        x.pass();
        x.drum(2, 0, 0, 0);
        x.terms(1, 0);
        x.terms(2, 0);
        x.heard(4, 1);
        Due.inForce(x, "sounds 2");
        DUE.is(41, "back(0)", x.back(0), 0);
        int[] of = {4, 2, 1, 6, 0, 1};
        for (int i = 0; i < 6; i++) {
            DUE.is(41, "of(0, " + i + ")", x.of(0, i), of[i]);
        }
        int[][] counts = {{0, 1}, {1, 1}, {2, 2}, {3, 1}, {4, 1}, {5, 0}, {12, 0}, {13, 5}, {14, 6}, {15, 7}};
        for (int[] a : counts) {
            DUE.is(41, "count(" + a[0] + ")", x.count(a[0]), a[1]);
        }
        DUE.is(41, "loud(0)", x.loud(0), 8);
        DUE.is(41, "canBe()", x.canBe(), 0);
        DUE.is(41, "undo()", x.undo(), -3);
        x.stop(0);
        DUE.is(41, "images stay", x.back(0), 0);
        DUE.is(41, "of(0, 4)", x.of(0, 4), 0);
        DUE.is(41, "back(1)", x.back(1), 0);
        DUE.is(41, "count(0)", x.count(0), 0);
        DUE.is(41, "count(4)", x.count(4), 0);
        DUE.is(41, "count(12)", x.count(12), -1);
        DUE.is(41, "count(14)", x.count(14), 1);
        DUE.is(41, "force(0)", x.force(0), -2);
        x.back(0);
        x.image(1);
        x.stop(0);
        x.image(0);
        DUE.is(40, "an image is kept anew", x.back(0), 0);
        DUE.is(40, "of(0, 4)", x.of(0, 4), 1);
        x.back(1);
        DUE.is(40, "of(0, 4)", x.of(0, 4), 0);
    }

    /** Of two images each has all of its own drums, terms and what was heard. */
    private static void imagesDiffer() {
        OrganDrums x = new OrganDrums();
        x.image(0);
        x.drum(4, 2, 1, 6);
        x.drum(5, 1, 2, 9);
        x.stop(1);
        x.heard(1, 1);
        x.heard(2, 0);
        x.image(1);
        x.back(0);
        x.drum(7, 3, 6, 64);
        x.drum(2, 0, 0, 3);
        x.stop(0);
        x.heard(3, 0);
        x.heard(4, 1);
        x.image(0);
        x.back(1);
        int[][] second = {{4, 2, 1, 6, 0, 1}, {5, 1, 2, 9, 1, 0}};
        int[][] first = {{7, 3, 6, 64, 1, 0}, {2, 0, 0, 3, 0, 1}};
        ofDrums(x, second);
        DUE.is(41, "canBe(): 0 strikes at 1, not at 2", x.canBe(), 1);
        x.back(0);
        ofDrums(x, first);
        DUE.is(41, "canBe(): 1 strikes at both, 0 at none", x.canBe(), 0);
        x.back(1);
        ofDrums(x, second);
    }

    private static void ofDrums(OrganDrums x, int[][] due) {
        for (int d = 0; d < due.length; d++) {
            for (int i = 0; i < 6; i++) {
                DUE.is(41, "of(" + d + ", " + i + ")", x.of(d, i), due[d][i]);
            }
        }
    }

    private static void imagesDoNotKeep() {
        OrganDrums x = new OrganDrums();
        x.drum(3, 0, 0, 1);
        x.image(0);
        Due.law(x, "bars x");
        Calls.tape(x, "abc");
        x.row();
        Due.orders(x, "pass; stop 9");
        x.days(0, 1);
        x.stop(5);
        x.feed(1, 2, 3, 4, 5);
        x.back(0);
        DUE.is(41, "the tape stays", x.count(6), 20);
        DUE.is(41, "the fault stays", x.fault(), -1);
        DUE.is(41, "the sleeves stay", x.sleeves(), 1);
        DUE.is(41, "where orders stopped stays", x.stopped(), 1);
        DUE.is(41, "the latest days stay", x.drawn(0, 1), 2);
        DUE.is(41, "what was refused stays", x.count(8), 1);
        DUE.is(41, "what was refused stays", x.count(9), 1);
        DUE.is(41, "what was refused stays", x.count(11), 1);
        x.end(0);
        Due.law(x, "bars x");
        x.back(0);
        DUE.is(41, "the fault stays", x.fault(), 5);
    }

    private static void imagesKeepLaws() {
        OrganDrums x = new OrganDrums();
        x.drum(1, 0, 0, 1);
        x.image(0);
        Due.inForce(x, "sounds 3");
        x.image(1);
        x.back(0);
        DUE.is(41, "a law that came behind is gone", x.force(0), -2);
        DUE.is(41, "law()", Due.law(x, "sounds 7"), 0);
        x.force(0);
        DUE.is(41, "loud(0)", x.loud(0), 7);
        x.back(1);
        DUE.is(41, "each image has its own laws", x.loud(0), 3);
    }

    private static void count() {
        OrganDrums x = new OrganDrums();
        x.drum(3, 0, 0, 5);
        x.drum(4, 0, 0, 14);
        x.drum(2, 0, 0, 1);
        x.stop(2);
        x.heard(1, 1);
        Due.inForce(x, "bars");
        x.feed(0, 0, 0, 0, 0);
        x.pin(0, 12);
        x.pin(9, 0);
        x.stop(9);
        x.pin(0, 1);
        x.pin(0, 4);
        x.pin(1, 0);
        for (int i = 0; i < 4; i++) {
            x.drum(1, 0, 0, 0);
        }
        x.law();
        // drum() cleared what could be undone.
        int[] due = {6, 1, 6, 1, 1, 0, 0, 1, 2, 3, 1, 1, 0, 0, 1, 0};
        for (int i = 0; i < due.length; i++) {
            DUE.is(42, "count(" + i + ")", x.count(i), due[i]);
        }
        DUE.is(42, "count(16)", x.count(16), -1);
        DUE.is(42, "count(-1)", x.count(-1), -1);
        x.of(99, 0);
        x.asks(99, 0, 0);
        x.loud(-1);
        x.when(-1);
        x.few(0, 0);
        x.compare(99);
        x.end(-1);
        DUE.is(42, "NONE is no refusal", x.count(7), 1);
        DUE.is(42, "NONE is no refusal", x.count(8), 2);
    }

    /** Every call that can be refused: once refused, once not. */
    private static void status() {
        OrganDrums x = new OrganDrums();
        DUE.is(43, "status()", x.status(), 0);
        Object[][] calls = {{"drum", -1, 13, 0, 0, 0}, {"drum", 0, 3, 0, 0, 1}, {"terms", -1, 3, 0}, {"terms", 0, 0, 1},
            {"row", -6}, {"force", -2, 0}, {"force", 0, -1}, {"pin", -3, 0, 3}, {"pin", 0, 0, 1}, {"shift", -1, 0, 0},
            {"shift", 0, 0, 1}, {"stop", -2, 1}, {"stop", 0, 0}, {"undo", 0}, {"undo", 0}, {"undo", 0}, {"undo", -3},
            {"pass", 0}, {"heard", -1, 0, 2}, {"heard", 0, 0, 1}, {"days", -1, 0, 0}, {"days", 0, 0, 1},
            {"back", -2, 1}, {"image", 0, 1}, {"image", -1, 2}, {"back", 0, 1}, {"law", -6}, {"orders", -6}};
        for (Object[] call : calls) {
            int[] numbers = Calls.numbers(call, 2);
            Calls.call(x, (String) call[0], numbers);
            String told = "status() behind " + Calls.told((String) call[0], numbers);
            DUE.is(43, told, x.status(), (Integer) call[1]);
            x.of(99, 99);
            x.feed(0, 0, 0, 0, 0);
            x.end(999);
            x.end(0);
            x.forget();
            x.loud(-1);
            DUE.is(43, told + " and others", x.status(), (Integer) call[1]);
        }
        Due.law(x, "bars");
        DUE.is(43, "status() behind law()", x.status(), 0);
        Due.orders(x, "stop 7");
        DUE.is(43, "status() behind orders()", x.status(), -3);
        Due.orders(x, "stop 0");
        DUE.is(43, "status() behind orders()", x.status(), 0);
        Calls.tape(x, "abcd");
        x.row();
        DUE.is(43, "status() behind row()", x.status(), 0);
        x.terms(0, 999);
        x.pass();
        DUE.is(43, "status() behind pass()", x.status(), -3);
    }
}
