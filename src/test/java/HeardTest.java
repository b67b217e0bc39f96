/** Promises 32 to 37: what was heard, when to listen, how likely so few slip, laws compared. */
public final class HeardTest {
    private static final Due DUE = new Due();

    public static void main(String[] args) {
        heardAndForget();
        canBe();
        listen();
        few();
        compare();
        DUE.end();
    }

    private static void heardAndForget() {
        OrganDrums x = new OrganDrums();
        x.drum(2, 0, 0, 1);
        x.stop(0);
        DUE.is(33, "forget()", x.forget(), 0);
        DUE.is(32, "heard(0, 0)", x.heard(0, 0), 1);
        DUE.is(32, "heard(99, 1)", x.heard(99, 1), 2);
        int[][] wrong = {{100, 0}, {-1, 0}, {0, 2}, {0, -1}};
        for (int[] a : wrong) {
            DUE.is(32, Calls.told("heard", a), x.heard(a[0], a[1]), -1);
        }
        for (int i = 3; i <= 6; i++) {
            DUE.is(32, "heard(5, 1)", x.heard(5, 1), i);
        }
        DUE.is(32, "heard(5, 1)", x.heard(5, 1), -5);
        DUE.is(32, "status()", x.status(), -5);
        DUE.is(32, "heard(5, 2)", x.heard(5, 2), -1);
        DUE.is(32, "count(3)", x.count(3), 6);
        DUE.is(32, "it leaves what can be undone", x.count(5), 1);
        DUE.is(33, "forget()", x.forget(), 6);
        DUE.is(33, "forget() is not one of those that status() tells of", x.status(), -1);
        DUE.is(33, "count(3)", x.count(3), 0);
        DUE.is(33, "forget()", x.forget(), 0);
        DUE.is(33, "heard(0, 0)", x.heard(0, 0), 1);
        DUE.is(33, "canBe()", x.canBe(), 1);
    }

    private static void canBe() {
        OrganDrums x = new OrganDrums();
        DUE.is(34, "canBe()", x.canBe(), 0);
        x.drum(2, 0, 0, 1);
        x.drum(3, 0, 0, 3);
        x.drum(4, 0, 0, 2);
        DUE.is(34, "canBe()", x.canBe(), 7);
        x.heard(1, 1);
        DUE.is(34, "canBe()", x.canBe(), 6);
        x.heard(97, 1);
        DUE.is(34, "canBe()", x.canBe(), 6);
        x.heard(95, 0);
        DUE.is(34, "canBe()", x.canBe(), 6);
        x.heard(4, 0);
        DUE.is(34, "canBe()", x.canBe(), 4);
        x.stop(2);
        DUE.is(34, "a stopped one does not strike", x.canBe(), 0);
        x.forget();
        x.heard(1, 0);
        DUE.is(34, "a stopped one does not strike", x.canBe(), 5);
        x.pass();
        DUE.is(34, "hours are counted from now", x.canBe(), 6);
        x.heard(1, 1);
        DUE.is(34, "nothing can be both", x.canBe(), 0);
    }

    private static void listen() {
        OrganDrums x = new OrganDrums();
        DUE.is(35, "listen(0)", x.listen(0), -1);
        x.drum(2, 0, 0, 1);
        DUE.is(35, "listen(0)", x.listen(0), 0);
        DUE.is(35, "listen(1)", x.listen(1), 1);
        x.drum(2, 0, 0, 1);
        x.drum(4, 0, 1, 1);
        x.drum(4, 0, 1, 1);
        // Now the first two strike alone: two are left at most.
        DUE.is(35, "listen(0)", x.listen(0), 0);
        DUE.is(35, "listen(1)", x.listen(1), 2);
        x.shift(0, 1);
        x.shift(1, 1);
        DUE.is(35, "listen(0)", x.listen(0), 1);
        DUE.is(35, "listen(1)", x.listen(1), 2);
        x.heard(1, 1);
        DUE.is(35, "listen(0)", x.listen(0), 0);
        DUE.is(35, "listen(1)", x.listen(1), 2);
        DUE.is(35, "listen(2)", x.listen(2), -1);
        DUE.is(35, "listen(-1)", x.listen(-1), -1);
        x.heard(1, 0);
        DUE.is(35, "it can be none", x.listen(0), -1);
        // They differ three hours on, not ahead of that.
        OrganDrums y = new OrganDrums();
        y.drum(12, 0, 0, 0);
        y.drum(12, 0, 0, 8);
        DUE.is(35, "listen(0)", y.listen(0), 3);
        DUE.is(35, "listen(1)", y.listen(1), 1);
    }

    private static void few() {
        OrganDrums x = new OrganDrums();
        long whole = 1_000_000_000_000L;
        DUE.is(36, "few(1, 1)", x.few(1, 1), 900_000_000_000L);
        DUE.is(36, "few(1, 2)", x.few(1, 2), 810_000_000_000L);
        DUE.is(36, "few(2, 2)", x.few(2, 2), 990_000_000_000L);
        DUE.is(36, "few(3, 2)", x.few(3, 2), whole);
        DUE.is(36, "few(20, 0)", x.few(20, 0), whole);
        int[][] wrong = {{0, 1}, {21, 1}, {-1, 1}, {1, -1}, {1, 100}};
        for (int[] a : wrong) {
            DUE.is(36, Calls.told("few", a), x.few(a[0], a[1]), -1);
        }
        x.terms(1, 3);
        DUE.is(36, "few(1, 13), cut", x.few(1, 13), 9_688_901_040L);
        x.terms(1, 5);
        DUE.is(36, "few(1, 13), cut", x.few(1, 13), 122_070_312L);
        DUE.is(36, "few(2, 13), both cut", x.few(2, 13), 1_708_984_374L);
        x.terms(1, 0);
        DUE.is(36, "few(1, 99)", x.few(1, 99), whole);
        x.terms(1, 10);
        DUE.is(36, "few(1, 1)", x.few(1, 1), 0);
        DUE.is(36, "few(20, 19)", x.few(20, 19), whole);
        DUE.is(36, "few(20, 20)", x.few(20, 20), 0);
        DUE.is(36, "few(20, 99)", x.few(20, 99), 0);
        DUE.is(36, "status()", x.status(), 0);
    }

    private static void compare() {
        OrganDrums x = new OrganDrums();
        DUE.is(37, "compare(-1)", x.compare(-1), 0);
        x.drum(2, 0, 0, 1);
        x.drum(3, 1, 0, 3);
        Due.law(x, "sounds 2+kind*3; drops");
        Due.law(x, "sounds beat");
        DUE.is(37, "compare(-1)", x.compare(-1), 7);
        DUE.is(37, "compare(0)", x.compare(0), 3 * 2 + 4 * 5);
        DUE.is(37, "compare(1)", x.compare(1), 2);
        x.force(1);
        DUE.is(37, "none in place of that in force", x.compare(-1), 7);
        DUE.is(37, "compare(0)", x.compare(0), 26);
        DUE.is(37, "compare(2)", x.compare(2), -1);
        DUE.is(37, "compare(-2)", x.compare(-2), -1);
        DUE.is(37, "count(12)", x.count(12), 1);
        x.stop(1);
        DUE.is(37, "of a shorter round", x.compare(0), 2);
        DUE.is(37, "status()", x.status(), 0);
    }
}
