/** Promises 20 to 31: what strikes at the hours of a round. */
public final class RoundTest {
    private static final Due DUE = new Due();

    public static void main(String[] args) {
        loud();
        round();
        whenOftenAlone();
        aLongRound();
        loudest();
        quiet();
        mostAndLeast();
        never();
        add();
        tune();
        DUE.end();
    }

    /** Drum 0 strikes at even hours, drum 1 at two of three, drum 2 at 1, 5, 9 of 12. */
    private static OrganDrums three() {
        OrganDrums x = new OrganDrums();
        x.drum(2, 0, 0, 1);
        x.drum(3, 1, 0, 3);
        x.drum(4, 2, 0, 2);
        return x;
    }

    private static void loud() {
        OrganDrums x = three();
        int[] due = {2, 2, 1, 1, 2, 1, 2, 1, 1, 2, 2, 0};
        for (int h = 0; h < 24; h++) {
            DUE.is(20, "loud(" + h + ")", x.loud(h), due[h % 12]);
        }
        DUE.is(20, "loud(30000)", x.loud(30000), 2);
        DUE.is(20, "loud(30001)", x.loud(30001), -1);
        DUE.is(20, "loud(-1)", x.loud(-1), -1);
        Due.inForce(x, "drops; sounds hour+beat+1");
        x.terms(0, 4);
        DUE.is(20, "loud(0)", x.loud(0), 10);
        DUE.is(20, "no pin drops, hour is as it is now", x.loud(12), 10);
        DUE.is(20, "loud(1)", x.loud(1), 12);
        DUE.is(20, "of(0, 3)", x.of(0, 3), 1);
        x.stop(0);
        DUE.is(20, "a stopped drum does not strike", x.loud(0), 5);
        DUE.is(20, "status()", x.status(), 0);
    }

    private static void round() {
        OrganDrums x = new OrganDrums();
        DUE.is(21, "round()", x.round(), 1);
        int[] lengths = {12, 11, 10, 9, 8, 7};
        int[] due = {12, 132, 660, 1980, 3960, 27720};
        for (int i = 0; i < 6; i++) {
            x.drum(lengths[i], 0, lengths[i] - 1, 0);
            DUE.is(21, "round()", x.round(), due[i]);
        }
        x.stop(1);
        DUE.is(21, "round()", x.round(), 2520);
        x.stop(5);
        DUE.is(21, "round()", x.round(), 360);
        x.stop(0);
        DUE.is(21, "round()", x.round(), 360);
        x.stop(3);
        DUE.is(21, "round()", x.round(), 40);
        x.stop(2);
        x.stop(4);
        DUE.is(21, "all are stopped", x.round(), 1);
    }

    private static void whenOftenAlone() {
        OrganDrums x = three();
        int[] when = {0, 0, 0, 0, 1, -1, 1, -1};
        int[] often = {12, 6, 8, 4, 3, 0, 2, 0};
        for (int set = 0; set < 8; set++) {
            DUE.is(22, "when(" + set + ")", x.when(set), when[set]);
            DUE.is(23, "often(" + set + ")", x.often(set), often[set]);
        }
        int[] wrong = {8, 9, 63, 64, -1, Integer.MIN_VALUE, Integer.MAX_VALUE};
        for (int set : wrong) {
            DUE.is(22, "when(" + set + ")", x.when(set), -1);
            DUE.is(23, "often(" + set + ")", x.often(set), -1);
        }
        DUE.is(24, "alone(0)", x.alone(0), 2);
        DUE.is(24, "alone(1)", x.alone(1), 2);
        DUE.is(24, "alone(2)", x.alone(2), 1);
        DUE.is(24, "alone(3)", x.alone(3), -1);
        DUE.is(24, "alone(-1)", x.alone(-1), -1);
        x.shift(0, 1);
        DUE.is(22, "when(1)", x.when(1), 1);
        DUE.is(22, "when(7)", x.when(7), 1);
        x.stop(0);
        DUE.is(22, "a stopped one never strikes", x.when(1), -1);
        DUE.is(23, "often(1)", x.often(1), 0);
        DUE.is(24, "alone(0)", x.alone(0), 0);
        DUE.is(24, "alone(1)", x.alone(1), 6);
        DUE.is(23, "nobody: the round", x.often(0), 12);
    }

    private static void aLongRound() {
        OrganDrums x = new OrganDrums();
        int[] lengths = {5, 7, 8, 9, 11};
        for (int length : lengths) {
            x.drum(length, 0, 0, 1 << length - 1);
        }
        DUE.is(21, "round()", x.round(), 27720);
        DUE.is(22, "when(31)", x.when(31), 27719);
        DUE.is(23, "often(31)", x.often(31), 1);
        DUE.is(23, "often(3)", x.often(3), 27720 / 35);
        DUE.is(24, "alone(0)", x.alone(0), 6 * 7 * 8 * 10);
        DUE.is(25, "loudest(0)", x.loudest(0), 5);
        DUE.is(25, "loudest(1)", x.loudest(1), 27719);
        DUE.is(25, "loudest(2)", x.loudest(2), 1);
        DUE.is(31, "tune()", x.tune(), 27720);
        DUE.is(37, "compare(-1)", x.compare(-1), 27720 / 5 + 27720 / 7 + 27720 / 8 + 27720 / 9 + 27720 / 11);
        DUE.is(29, "never(0)", x.never(0), -1);
        DUE.is(30, "add(31, 0)", x.add(31, 0), 0);
        DUE.is(30, "add(31, 1)", x.add(31, 1), 27719);
        DUE.is(27, "most(0, 0)", x.most(0, 0), 0);
        DUE.is(27, "most(0, 1)", x.most(0, 1), 27720 / 5 - 6 * 7 * 8 * 10);
        DUE.is(28, "least(0, 1)", x.least(0, 1), 27720 / 5 - 6 * 7 * 8 * 10);
        x.drum(12, 0, 0, 4095);
        DUE.is(26, "quiet(0)", x.quiet(0), 0);
        DUE.is(26, "quiet(1)", x.quiet(1), -1);
        DUE.is(23, "often(63)", x.often(63), 1);
    }

    private static void loudest() {
        OrganDrums x = three();
        DUE.is(25, "loudest(0)", x.loudest(0), 2);
        DUE.is(25, "loudest(1)", x.loudest(1), 0);
        DUE.is(25, "loudest(2)", x.loudest(2), 6);
        Due.inForce(x, "sounds kind+beat");
        // Drum 0 sounds 0, drum 1 at beat 0 by 1 and at 1 by 2, drum 2 at beat 1 by 3.
        DUE.is(25, "loudest(0)", x.loudest(0), 5);
        DUE.is(25, "loudest(1)", x.loudest(1), 1);
        DUE.is(25, "loudest(2)", x.loudest(2), 1);
        DUE.is(25, "loudest(3)", x.loudest(3), -1);
        DUE.is(25, "loudest(-1)", x.loudest(-1), -1);
        Due.inForce(x, "sounds 0");
        DUE.is(25, "loudest(0)", x.loudest(0), 0);
        DUE.is(25, "loudest(1)", x.loudest(1), 0);
        DUE.is(25, "loudest(2)", x.loudest(2), 12);
    }

    private static void quiet() {
        int[][] drums = {{6, 0, 12, 4, 4}, {6, 0, 9, 2, 1}, {6, 1, 9, 2, 0}, {6, 5, 9, 2, 2}, {6, 0, 0, 6, 0},
            {6, 0, 63, 0, -1}, {1, 0, 1, 0, -1}, {1, 0, 0, 1, 0}, {6, 3, 1, 5, 4}, {6, 0, 33, 4, 1}, {6, 0, 37, 2, 3}};
        for (int[] d : drums) {
            OrganDrums x = new OrganDrums();
            x.drum(d[0], 0, d[1], d[2]);
            String told = " of " + Calls.told("drum", d[0], 0, d[1], d[2]);
            DUE.is(26, "quiet(0)" + told, x.quiet(0), d[3]);
            DUE.is(26, "quiet(1)" + told, x.quiet(1), d[4]);
        }
        OrganDrums x = three();
        DUE.is(26, "quiet(0)", x.quiet(0), 1);
        DUE.is(26, "quiet(1)", x.quiet(1), 11);
        DUE.is(26, "quiet(2)", x.quiet(2), -1);
        DUE.is(26, "quiet(-1)", x.quiet(-1), -1);
        Due.inForce(x, "sounds 0");
        DUE.is(26, "a pin that is not loud strikes all the same", x.quiet(0), 1);
        x.stop(0);
        x.stop(1);
        x.stop(2);
        DUE.is(26, "quiet(0)", x.quiet(0), 1);
        DUE.is(26, "quiet(1)", x.quiet(1), 0);
    }

    private static void mostAndLeast() {
        OrganDrums x = three();
        // Behind shift s drum 2 strikes at 1 - s, 5 - s, 9 - s; none of the others does at 5 and at 11.
        DUE.is(27, "most(2, 0)", x.most(2, 0), 1);
        DUE.is(27, "most(2, 1)", x.most(2, 1), 3);
        DUE.is(28, "least(2, 0)", x.least(2, 0), 0);
        DUE.is(28, "least(2, 1)", x.least(2, 1), 2);
        // Drum 0: at even hours another one strikes at 0, 4, 6, 10; at odd ones at 1, 3, 5, 7, 9.
        DUE.is(27, "most(0, 0)", x.most(0, 0), 1);
        DUE.is(27, "most(0, 1)", x.most(0, 1), 5);
        DUE.is(28, "least(0, 0)", x.least(0, 0), 0);
        DUE.is(28, "least(0, 1)", x.least(0, 1), 4);
        DUE.is(27, "of(0, 2)", x.of(0, 2), 0);
        int[][] wrong = {{3, 0}, {-1, 0}, {0, 2}, {0, -1}};
        for (int[] a : wrong) {
            DUE.is(27, Calls.told("most", a), x.most(a[0], a[1]), -1);
            DUE.is(28, Calls.told("least", a), x.least(a[0], a[1]), -1);
        }
        x.stop(2);
        DUE.is(27, "a stopped one never strikes", x.most(2, 0), 0);
        DUE.is(27, "a stopped one never strikes", x.most(2, 1), 0);
        DUE.is(28, "a stopped one never strikes", x.least(2, 1), 0);
        OrganDrums y = new OrganDrums();
        y.drum(3, 0, 2, 1);
        y.drum(3, 0, 0, 1);
        DUE.is(27, "most(0, 0)", y.most(0, 0), 1);
        DUE.is(27, "most(0, 1)", y.most(0, 1), 1);
        DUE.is(28, "least(0, 0)", y.least(0, 0), 0);
        DUE.is(28, "least(0, 1)", y.least(0, 1), 0);
        DUE.is(27, "most(1, 0)", y.most(1, 0), 2);
        y.shift(0, 1);
        DUE.is(28, "least(0, 0)", y.least(0, 0), 1);
        OrganDrums z = new OrganDrums();
        z.drum(12, 0, 0, 1);
        z.drum(1, 0, 0, 1);
        z.drum(4, 0, 3, 3);
        z.stop(1);
        DUE.is(27, "most(0, 0)", z.most(0, 0), 2);
        DUE.is(27, "most(0, 1)", z.most(0, 1), 1);
        DUE.is(28, "least(0, 1)", z.least(0, 1), 0);
        z.stop(1);
        DUE.is(28, "least(0, 1)", z.least(0, 1), 1);
        DUE.is(27, "most(1, 0)", z.most(1, 0), 0);
        DUE.is(27, "most(1, 1)", z.most(1, 1), 7);
    }

    private static void never() {
        OrganDrums x = new OrganDrums();
        DUE.is(29, "never(0)", x.never(0), -1);
        DUE.is(29, "never(1)", x.never(1), -1);
        x = three();
        DUE.is(29, "never(0)", x.never(0), 2);
        DUE.is(29, "never(1)", x.never(1), 5);
        DUE.is(29, "never(2)", x.never(2), -1);
        DUE.is(29, "never(-1)", x.never(-1), -1);
        x.drum(5, 0, 0, 0);
        DUE.is(29, "one without pins", x.never(0), 1);
        DUE.is(29, "one without pins", x.never(1), 8);
        x.stop(1);
        DUE.is(29, "a stopped one, the lowest", x.never(1), 2);
        // Any two of these strike at once, all three never do.
        OrganDrums y = new OrganDrums();
        y.drum(3, 0, 0, 3);
        y.drum(3, 0, 0, 6);
        y.drum(3, 0, 0, 5);
        DUE.is(29, "never(0)", y.never(0), 3);
        DUE.is(29, "never(1)", y.never(1), 7);
        y.pin(0, 2);
        DUE.is(29, "all do at one hour", y.never(0), -1);
    }

    private static void add() {
        OrganDrums x = three();
        DUE.is(30, "add(5, 0)", x.add(5, 0), 1);
        DUE.is(30, "add(5, 1)", x.add(5, 1), 0);
        DUE.is(30, "add(6, 0)", x.add(6, 0), 0);
        DUE.is(30, "add(6, 1)", x.add(6, 1), 1);
        DUE.is(30, "add(7, 0)", x.add(7, 0), 1);
        DUE.is(30, "add(7, 1)", x.add(7, 1), 0);
        int[][] wrong = {{0, 0}, {8, 0}, {64, 0}, {-1, 0}, {5, 2}, {5, -1}};
        for (int[] a : wrong) {
            DUE.is(30, Calls.told("add", a), x.add(a[0], a[1]), -1);
        }
        Due.inForce(x, "bars if drum=2 and beat=0");
        DUE.is(30, "add(5, 0)", x.add(5, 0), 1);
        DUE.is(30, "add(5, 1)", x.add(5, 1), 1);
        Due.inForce(x, "bars if drum=2 or drum=0");
        DUE.is(30, "it can't be", x.add(5, 0), -1);
        DUE.is(30, "it can't be", x.add(5, 1), -1);
        DUE.is(30, "a pin that is there may be barred", x.add(6, 0), 0);
        DUE.is(30, "add(7, 0)", x.add(7, 0), -1);
        x.force(-1);
        x.stop(2);
        DUE.is(30, "one is stopped", x.add(5, 0), -1);
        DUE.is(30, "add(3, 0)", x.add(3, 0), 0);
        OrganDrums y = new OrganDrums();
        y.drum(2, 0, 0, 0);
        y.drum(3, 0, 1, 1);
        DUE.is(30, "add(3, 0)", y.add(3, 0), 1);
        DUE.is(30, "add(3, 1)", y.add(3, 1), 2);
        Due.inForce(y, "bars if drum=0 and beat=0");
        DUE.is(30, "add(3, 0)", y.add(3, 0), 1);
        DUE.is(30, "add(3, 1)", y.add(3, 1), 5);
        y.pin(1, 0);
        DUE.is(30, "add(3, 0)", y.add(3, 0), 2);
        DUE.is(30, "add(3, 1)", y.add(3, 1), 1);
        DUE.is(30, "none was put", y.count(2), 0);
    }

    private static void tune() {
        OrganDrums x = new OrganDrums();
        DUE.is(31, "tune()", x.tune(), 1);
        x.drum(4, 0, 0, 5);
        DUE.is(31, "tune()", x.tune(), 2);
        Due.inForce(x, "sounds beat");
        DUE.is(31, "tune()", x.tune(), 4);
        Due.inForce(x, "sounds 0");
        DUE.is(31, "tune()", x.tune(), 1);
        x.force(-1);
        x.drum(6, 0, 0, 0);
        DUE.is(31, "tune()", x.tune(), 2);
        x.pin(1, 0);
        DUE.is(31, "tune()", x.tune(), 6);
        x.pin(1, 3);
        DUE.is(31, "tune()", x.tune(), 6);
        x.stop(0);
        DUE.is(31, "tune()", x.tune(), 3);
        // One behind the other they are loud at each hour.
        OrganDrums y = new OrganDrums();
        y.drum(2, 0, 0, 1);
        y.drum(2, 0, 0, 2);
        DUE.is(31, "tune()", y.tune(), 1);
        OrganDrums z = new OrganDrums();
        z.drum(12, 0, 0, 2925);
        DUE.is(31, "tune()", z.tune(), 3);
        z.pin(0, 8);
        DUE.is(31, "tune()", z.tune(), 12);
    }
}
