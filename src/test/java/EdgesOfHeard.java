/** Boundary cases of promises 32 to 37: what was heard, when to listen, how likely so few slip, laws compared. */
final class EdgesOfHeard {
    private static final int LOW = Integer.MIN_VALUE;
    private static final int HIGH = Integer.MAX_VALUE;
    private static final long WHOLE = 1_000_000_000_000L;

    private final Due due;

    private EdgesOfHeard(Due due) {
        this.due = due;
    }

    static void check(Due due) {
        EdgesOfHeard edges = new EdgesOfHeard(due);
        edges.heard();
        edges.forget();
        edges.canBe();
        edges.listen();
        edges.listenLate();
        edges.few();
        edges.fewAreCut();
        edges.compare();
        edges.allLeaveWhatStands();
    }

    private void heard() {
        due.says(32, "HEARD, 6 at most: so many HOURS 0 .. 99 on from now a drum nobody knows STRIKES (1) or not (0)");
        due.says(32, "HEARD: how often there was");
        int[][] fine = {{0, 0}, {0, 1}, {99, 0}, {99, 1}, {0, 0}, {99, 1}};
        OrganDrums x = new OrganDrums();
        for (int i = 0; i < 6; i++) {
            due.is(Calls.told("heard", fine[i]), x.heard(fine[i][0], fine[i][1]), i + 1);
            due.is("status()", x.status(), 0);
            due.is("count(3)", x.count(3), i + 1);
        }
        due.is("heard(0, 0)", x.heard(0, 0), -5);
        due.is("count(3)", x.count(3), 6);
        due.says(32, "-1 (h 0 .. 99, is 0, 1)");
        int[][] wrong = {{-1, 0}, {100, 0}, {LOW, 0}, {HIGH, 0}, {0, -1}, {0, 2}, {0, LOW}, {0, HIGH}, {100, 2}};
        for (int[] a : wrong) {
            Twins.refused(due, Ways::empty, -1, "heard", a);
            Twins.refused(due, Ways::busy, -1, "heard", a);
        }
        due.says(32, "-5 no room");
        Twins.refused(due, Ways::full, -5, "heard", 0, 0);
        due.says(32, "-5.");
        Twins.refused(due, Ways::full, -5, "heard", 99, 1);
        due.says(32, "The first of these in that order");
        Twins.refused(due, Ways::full, -1, "heard", 100, 0);
        Twins.refused(due, Ways::full, -1, "heard", 0, 2);
        due.says(32, "It leaves what can be undone");
        OrganDrums y = Ways.busy();
        due.is("heard(99, 0)", y.heard(99, 0), 3);
        due.is("count(5)", y.count(5), 5);
        int[] kinds = {2, 3, 2, 1, 0};
        for (int kind : kinds) {
            due.is("undo()", y.undo(), kind);
        }
        due.is("undo() leaves what was heard", y.count(3), 3);
    }

    private void forget() {
        due.says(33, "HEARD is nothing then: how often there was");
        due.is("forget() of nothing", new OrganDrums().forget(), 0);
        OrganDrums x = Ways.full();
        due.is("forget()", x.forget(), 6);
        due.is("count(3)", x.count(3), 0);
        due.is("forget()", x.forget(), 0);
        due.is("canBe(), all can be", x.canBe(), 63);
        due.is("count(5), it leaves what can be undone", x.count(5), 16);
        for (int i = 1; i <= 6; i++) {
            due.is("heard(0, 1), there is room again", x.heard(0, 1), i);
        }
        due.is("heard(0, 1)", x.heard(0, 1), -5);
        due.is("forget()", x.forget(), 6);
        due.is("status() is that of heard()", x.status(), -5);
    }

    private void canBe() {
        due.says(34, "IT CAN BE: DRUMS, all there are, that would STRIKE or not as all that was HEARD");
        due.is("canBe() of nobody", new OrganDrums().canBe(), 0);
        for (int drums = 1; drums <= 6; drums++) {
            OrganDrums x = new OrganDrums();
            for (int d = 0; d < drums; d++) {
                x.drum(12, 0, 0, 1 << d);
            }
            due.says(34, "IT CAN BE, as bits");
            due.is("canBe(), nothing was heard", x.canBe(), (1 << drums) - 1);
            x.heard(drums - 1, 1);
            due.is("canBe()", x.canBe(), 1 << drums - 1);
            x.stop(drums - 1);
            due.is("canBe(), stopped", x.canBe(), 0);
            x.forget();
            x.heard(drums - 1, 0);
            due.is("canBe(), not heard", x.canBe(), (1 << drums) - 1);
        }
        due.says(34, "so many HOURS 0 .. 99 on from now");
        OrganDrums x = new OrganDrums();
        x.drum(12, 0, 0, 8);
        x.drum(11, 0, 0, 1);
        x.heard(99, 1);
        due.is("canBe(), 99 hours on at beats 3 and 0", x.canBe(), 3);
        x.heard(0, 1);
        due.is("canBe(), now", x.canBe(), 2);
        x.heard(0, 0);
        due.is("canBe(), nothing is both", x.canBe(), 0);
        x.forget();
        x.heard(99, 0);
        due.is("canBe()", x.canBe(), 0);
        x.shift(1, 1);
        due.is("canBe(), as they are now", x.canBe(), 2);
        due.says(34, "DRUMS, all there are, that would STRIKE or not");
        OrganDrums y = new OrganDrums();
        y.drum(2, 0, 0, 3);
        y.drum(2, 0, 0, 0);
        for (int i = 0; i < 6; i++) {
            y.heard(i, i < 5 ? 1 : 0);
        }
        due.is("canBe(), all six are asked", y.canBe(), 0);
        y.forget();
        for (int i = 0; i < 6; i++) {
            y.heard(i, 1);
        }
        due.is("canBe()", y.canBe(), 1);
        Due.inForce(y, "drops; sounds 0");
        due.is("canBe(), on paper no pin drops", y.canBe(), 1);
    }

    private void listen(OrganDrums x, int first, int left) {
        due.is("listen(0)", x.listen(0), first);
        due.is("listen(1)", x.listen(1), left);
    }

    private static OrganDrums drums(int... all) {
        OrganDrums x = new OrganDrums();
        for (int i = 0; i < all.length; i += 3) {
            x.drum(all[i], 0, all[i + 1], all[i + 2]);
        }
        return x;
    }

    private void listen() {
        due.says(35, "To LISTEN: the HOUR 0 .. 99 on at which of these the more of those that STRIKE and those that"
                + " do not are as"
                + " few as can be");
        listen(drums(1, 0, 1), 0, 1);
        listen(drums(1, 0, 0), 0, 1);
        listen(drums(12, 0, 2048), 0, 1);
        listen(drums(1, 0, 1, 1, 0, 1), 0, 2);
        listen(drums(1, 0, 1, 1, 0, 0), 0, 1);
        listen(drums(12, 0, 2048, 1, 0, 0), 11, 1);
        listen(drums(12, 0, 2048, 12, 0, 2048), 0, 2);
        listen(drums(1, 0, 1, 1, 0, 1, 1, 0, 1, 1, 0, 1, 1, 0, 1, 1, 0, 1), 0, 6);
        listen(drums(1, 0, 0, 1, 0, 0, 1, 0, 0, 1, 0, 0, 1, 0, 0, 1, 0, 0), 0, 6);
        listen(drums(1, 0, 0, 1, 0, 0, 1, 0, 0, 1, 0, 0, 1, 0, 0, 4, 0, 8), 3, 5);
        listen(drums(1, 0, 1, 1, 0, 1, 1, 0, 1, 1, 0, 1, 1, 0, 1, 4, 0, 7), 3, 5);
        listen(drums(12, 0, 2048, 12, 0, 2048, 12, 0, 2048, 1, 0, 0, 1, 0, 0, 1, 0, 0), 11, 3);
        listen(drums(6, 0, 1, 6, 0, 3, 6, 0, 7, 6, 0, 15, 6, 0, 31, 6, 0, 63), 3, 3);
        listen(drums(6, 0, 63, 6, 0, 62, 6, 0, 60, 6, 0, 56, 6, 0, 48, 6, 0, 32), 2, 3);
        due.says(35, "the first.");
        listen(drums(6, 0, 36, 1, 0, 0), 2, 1);
        listen(drums(6, 3, 36, 1, 0, 0), 2, 1);
        listen(drums(6, 2, 36, 1, 0, 0), 0, 1);
        due.says(35, "NONE (it can be none)");
        listen(new OrganDrums(), -1, -1);
        OrganDrums x = drums(2, 0, 1, 2, 0, 2);
        x.heard(0, 1);
        due.says(35, "at which of these the more");
        listen(x, 0, 1);
        // Those that can't be are not counted: of the first two one strikes an hour on; of all four two do now.
        OrganDrums y = drums(6, 0, 1, 6, 0, 3, 6, 0, 2, 6, 0, 2);
        listen(y, 0, 2);
        y.heard(0, 1);
        listen(y, 1, 1);
        y.heard(1, 1);
        listen(y, 0, 1);
        x.heard(1, 1);
        due.says(35, "NONE (it can be none)");
        listen(x, -1, -1);
        x.forget();
        listen(x, 0, 1);
        due.says(35, "To LISTEN: the HOUR on (what 0), how many are left at most (1)");
        for (int what : new int[] {-1, 2, LOW, HIGH}) {
            due.is("listen(" + what + ")", x.listen(what), -1);
        }
    }

    private void listenLate() {
        due.says(35, "the HOUR 0 .. 99 on");
        listen(drums(11, 0, 1 << 9, 12, 0, 1 << 9), 20, 1);
        // The first strikes at 0, 11 .. 99, the second at 9, 19 .. 99: at 99 alone two of four do.
        listen(drums(11, 0, 1, 10, 0, 1 << 9, 1, 0, 0, 1, 0, 0), 99, 2);
        // An hour later they would at 100 alone, which is too late: one of four at most, now for the first time.
        listen(drums(11, 10, 1, 10, 0, 1, 1, 0, 0, 1, 0, 0), 0, 3);
        OrganDrums z = drums(12, 0, 1, 12, 0, 1, 12, 0, 1);
        listen(z, 0, 3);
        z.stop(1);
        listen(z, 0, 2);
        z.stop(2);
        listen(z, 0, 2);
        z.stop(0);
        listen(z, 0, 3);
    }

    private void few() {
        due.says(36, "FEW, k 1 .. 20, n 0 .. 99");
        OrganDrums x = new OrganDrums();
        due.is("few(1, 0)", x.few(1, 0), WHOLE);
        due.is("few(20, 0)", x.few(20, 0), WHOLE);
        due.is("few(1, 1)", x.few(1, 1), 900_000_000_000L);
        due.is("few(2, 1)", x.few(2, 1), WHOLE);
        due.is("few(20, 19)", x.few(20, 19), part(1, 20, 19));
        due.is("few(1, 99)", x.few(1, 99), part(1, 1, 99));
        due.is("few(20, 99)", x.few(20, 99), part(1, 20, 99));
        due.says(36, "NONE.");
        int[][] wrong = {{0, 1}, {21, 1}, {-1, 1}, {LOW, 1}, {HIGH, 1}, {1, -1}, {1, 100}, {1, LOW}, {1, HIGH}, {0, 100}};
        for (int[] a : wrong) {
            due.is(Calls.told("few", a), x.few(a[0], a[1]), -1);
            Twins.leaves(due, Ways::busy, "few", a);
        }
        due.says(36, "that of n pins, each of which slips in SLIPS of ten, fewer than k do");
        x.terms(1, 0);
        due.is("few(1, 99), none slips", x.few(1, 99), WHOLE);
        due.is("few(20, 99)", x.few(20, 99), WHOLE);
        x.terms(1, 10);
        due.is("few(1, 0), all slip", x.few(1, 0), WHOLE);
        due.is("few(1, 1)", x.few(1, 1), 0);
        due.is("few(2, 1)", x.few(2, 1), WHOLE);
        due.is("few(19, 19)", x.few(19, 19), 0);
        due.is("few(20, 19)", x.few(20, 19), WHOLE);
        due.is("few(20, 20)", x.few(20, 20), 0);
        due.is("few(20, 99)", x.few(20, 99), 0);
    }

    /** Worked out with a row for each pin, from the lowest up. */
    private static long part(long slips, int k, int n) {
        long[][] rows = new long[n + 1][n + 2];
        rows[0][0] = WHOLE;
        for (int i = 0; i < n; i++) {
            for (int did = 0; did <= i; did++) {
                rows[i + 1][did] += rows[i][did] * (10 - slips) / 10;
                rows[i + 1][did + 1] += rows[i][did] * slips / 10;
            }
        }
        long sum = 0;
        for (int did = 0; did < k && did <= n; did++) {
            sum += rows[n][did];
        }
        return sum;
    }

    private void fewAreCut() {
        due.says(36, "pin by pin, by how many did, each part times the rest by ten and times SLIPS by ten (one"
                + " more), both cut");
        OrganDrums x = new OrganDrums();
        due.is("few(1, 12), nothing to cut yet", x.few(1, 12), 282_429_536_481L);
        due.is("few(1, 13), cut once", x.few(1, 13), 254_186_582_832L);
        due.is("few(1, 14)", x.few(1, 14), 228_767_924_548L);
        x.terms(1, 9);
        due.is("few(1, 12)", x.few(1, 12), 1);
        due.is("few(1, 13)", x.few(1, 13), 0);
        due.says(36, "of those below k all together");
        for (int slips = 0; slips <= 10; slips++) {
            x.terms(1, slips);
            for (int k : new int[] {1, 2, 19, 20}) {
                for (int n : new int[] {2, 13, 40, 99}) {
                    due.is("few(" + k + ", " + n + ") with " + slips, x.few(k, n), part(slips, k, n));
                }
            }
        }
    }

    private void compare() {
        due.says(37, "COMPARED: how LOUD the HOURS of a ROUND are together by a LAW in place of that in FORCE"
                + " (NONE: none)");
        OrganDrums x = Ways.full();
        x.stop(0);
        due.is("round()", x.round(), 27720);
        due.is("compare(-1)", x.compare(-1), 6 * 27720);
        // By law d a pin sounds by d and what is left of its beat by 3: 0, 1, 2 in turn.
        due.is("compare(0)", x.compare(0), thirds(0));
        due.is("compare(5)", x.compare(5), thirds(5));
        due.is("count(12) is as it was", x.count(12), 5);
        due.says(37, "NONE (no such LAW)");
        for (int law : new int[] {-2, 6, LOW, HIGH}) {
            due.is("compare(" + law + ")", x.compare(law), -1);
        }
        due.is("compare(2) of two laws", Ways.busy().compare(2), -1);
        due.is("compare(0) of none", new OrganDrums().compare(0), -1);
        due.is("compare(-1) of nobody", new OrganDrums().compare(-1), 0);
        due.is("status()", x.status(), 0);
        due.says(37, "COMPARED.");
        OrganDrums y = new OrganDrums();
        for (int length = 12; length >= 7; length--) {
            y.drum(length, 0, 0, (1 << length) - 1);
        }
        Due.inForce(y, "sounds 9");
        Due.law(y, "sounds 0");
        due.is("compare(0), the most that can be", y.compare(0), 54 * 27720);
        due.is("compare(1)", y.compare(1), 0);
        for (int d = 0; d < 6; d++) {
            y.stop(d);
        }
        due.is("compare(0), all are stopped", y.compare(0), 0);
        due.is("compare(-1)", y.compare(-1), 0);
    }

    private static int thirds(int law) {
        int sum = 0;
        for (int length = 12; length >= 7; length--) {
            for (int beat = 0; beat < length; beat++) {
                sum += (law + beat % 3) * (27720 / length);
            }
        }
        return sum;
    }

    private void allLeaveWhatStands() {
        Object[][] calls = {{34, "canBe"}, {35, "listen", 0}, {35, "listen", 1}, {35, "listen", 2}, {36, "few", 20, 99},
            {37, "compare", -1}, {37, "compare", 1}, {37, "compare", 6}};
        for (Object[] call : calls) {
            int[] numbers = Calls.numbers(call, 2);
            due.says((Integer) call[0], "(On paper, n HOURS on");
            Twins.leaves(due, Ways::busy, (String) call[1], numbers);
            Twins.leaves(due, Ways::full, (String) call[1], numbers);
        }
    }
}
