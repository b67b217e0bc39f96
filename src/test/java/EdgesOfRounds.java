/** Boundary cases of promises 20 to 31: what strikes at the hours of a round. */
final class EdgesOfRounds {
    private static final int LOW = Integer.MIN_VALUE;
    private static final int HIGH = Integer.MAX_VALUE;

    private final Due due;

    private EdgesOfRounds(Due due) {
        this.due = due;
    }

    static void check(Due due) {
        EdgesOfRounds edges = new EdgesOfRounds(due);
        edges.loud();
        edges.loudOnPaper();
        edges.round();
        edges.whenAndOften();
        edges.setsThatAreNotThere();
        edges.alone();
        edges.loudest();
        edges.quiet();
        edges.mostAndLeast();
        edges.shiftsOfOneDrum();
        edges.never();
        edges.add();
        edges.addAtBarredBeats();
        edges.addForEachDrum();
        edges.tune();
        edges.theLongestRound();
        edges.longRoundsOfThree();
        edges.eachAskedAlone();
        edges.allLeaveWhatStands();
    }

    private static OrganDrums drums(int... all) {
        OrganDrums x = new OrganDrums();
        for (int i = 0; i < all.length; i += 3) {
            x.drum(all[i], 0, all[i + 1], all[i + 2]);
        }
        return x;
    }

    /** Six drums of these beats, each with all its pins. */
    private static OrganDrums sixLong() {
        OrganDrums x = new OrganDrums();
        for (int length = 12; length >= 7; length--) {
            x.drum(length, 0, 0, (1 << length) - 1);
        }
        return x;
    }

    private void loud() {
        due.says(20, "How LOUD it is h HOURS 0 .. 30,000 on");
        OrganDrums x = drums(7, 6, 1);
        due.is("loud(0)", x.loud(0), 0);
        due.is("loud(1), round to beat 0", x.loud(1), 1);
        // 30,000 is 7 times 4285 and 5: 29,996 is 1 more than a multiple of 7.
        due.is("loud(29996)", x.loud(29996), 1);
        due.is("loud(29995)", x.loud(29995), 0);
        OrganDrums y = drums(1, 0, 1, 12, 0, 1, 11, 0, 8);
        due.is("loud(30000), at beats 0, 0 and 3", y.loud(30000), 3);
        due.is("loud(29999)", y.loud(29999), 1);
        due.says(20, "NONE.");
        for (int h : new int[] {-1, 30001, LOW, HIGH}) {
            due.is("loud(" + h + ")", y.loud(h), -1);
            due.is("status()", y.status(), 0);
        }
        due.says(20, "LOUD: what all DRUMS that STRIKE SOUND at the BEATS they are AT, together");
        OrganDrums z = sixLong();
        due.is("loud(0)", z.loud(0), 6);
        Due.inForce(z, "sounds 9");
        due.is("loud(0), the most that can be", z.loud(0), 54);
        due.is("loud(30000)", z.loud(30000), 54);
        due.is("pass()", z.pass(), 54);
        Due.inForce(z, "sounds 0");
        due.is("loud(0)", z.loud(0), 0);
        due.is("count(1)", z.count(1), 6);
        for (int d = 0; d < 6; d++) {
            z.stop(d);
        }
        z.force(0);
        due.is("loud(0), all are stopped", z.loud(0), 0);
        due.is("loud(30000)", z.loud(30000), 0);
    }

    private void loudOnPaper() {
        due.says(20, "(On paper, n HOURS on: no PIN DROPS, DRUMS that are not STOPPED go on, laws are asked as HOUR"
                + " is now:)");
        OrganDrums x = drums(3, 0, 7, 2, 0, 3);
        x.stop(1);
        x.terms(0, 997);
        Due.inForce(x, "drops; sounds hour-990+beat if drum=0; sounds 1 if pins<3");
        int[] loud = {7, 8, 9, 7, 8, 9};
        for (int h = 0; h < 6; h++) {
            due.is("loud(" + h + ")", x.loud(h), loud[h]);
        }
        due.is("compare(0)", x.compare(0), 24);
        due.is("loudest(0)", x.loudest(0), 9);
        due.is("often(1)", x.often(1), 3);
        due.is("count(2)", x.count(2), 5);
        due.is("count(13)", x.count(13), 997);
        due.is("pass()", x.pass(), 7);
        due.is("count(2), a pin dropped", x.count(2), 4);
        due.is("often(1)", x.often(1), 2);
    }

    private void round() {
        due.says(21, "A ROUND: the fewest HOURS, 1 at least, behind which all DRUMS that are not STOPPED are AT the"
                + " BEATS they"
                + " are AT now (none: 1)");
        due.is("round()", new OrganDrums().round(), 1);
        for (int length = 1; length <= 12; length++) {
            OrganDrums x = drums(length, length - 1, 0);
            due.is("round() of one of " + length, x.round(), length);
            x.drum(length, 0, 0, 1);
            due.is("round() of two of " + length, x.round(), length);
            x.stop(0);
            due.is("round() with one stopped", x.round(), length);
            x.stop(1);
            due.is("round() with all stopped", x.round(), 1);
            x.stop(0);
            due.is("round() with one of two no more stopped", x.round(), length);
        }
        int[] lengths = {5, 7, 8, 9, 11, 12};
        int[] rounds = {5, 35, 280, 2520, 27720, 27720};
        OrganDrums x = new OrganDrums();
        for (int i = 0; i < 6; i++) {
            x.drum(lengths[i], 0, 0, 0);
            due.is("round()", x.round(), rounds[i]);
        }
        due.is("round() of twelve, ten, eight", drums(12, 0, 0, 10, 0, 0, 8, 0, 0).round(), 120);
        due.is("round() of four, six", drums(4, 0, 0, 6, 0, 0).round(), 12);
        due.is("round() of two, four, eight", drums(2, 0, 0, 4, 0, 0, 8, 0, 0).round(), 8);
        due.is("round() of 11, 10, 9", drums(11, 0, 0, 10, 0, 0, 9, 0, 0).round(), 990);
        due.is("round() of 1 six times", drums(1, 0, 0, 1, 0, 0, 1, 0, 0, 1, 0, 0, 1, 0, 0, 1, 0, 0).round(), 1);
        due.says(21, "A ROUND.");
        due.is("round() of all that can be", sixLong().round(), 27720);
    }

    private void whenAndOften() {
        due.says(22, "WHEN a set STRIKES at once: the fewest HOURS on, 0 at least, at which all of it STRIKE"
                + " (nobody: 0)");
        OrganDrums x = drums(4, 1, 1, 6, 2, 2, 1, 0, 1);
        due.is("when(0)", x.when(0), 0);
        due.is("when(1)", x.when(1), 3);
        due.is("when(2)", x.when(2), 5);
        due.is("when(4)", x.when(4), 0);
        due.is("when(3), at the last hour of the round", x.when(3), 11);
        due.is("when(7)", x.when(7), 11);
        due.says(23, "OFTEN: at how many of the HOURS 0 .. ROUND less 1 on");
        due.is("often(1)", x.often(1), 3);
        due.is("often(2)", x.often(2), 2);
        due.is("often(3)", x.often(3), 1);
        due.is("often(4), at all of them", x.often(4), 12);
        due.is("often(7)", x.often(7), 1);
        due.says(23, "OFTEN, of a set 0 .. 63 (nobody: ROUND)");
        due.is("often(0)", x.often(0), 12);
        due.is("often(0) of nobody", new OrganDrums().often(0), 1);
        due.says(22, "NONE (never; one is not there, others)");
        x.shift(0, 1);
        due.is("when(3), now never", x.when(3), -1);
        due.is("often(3), now never", x.often(3), 0);
        due.is("when(5)", x.when(5), 2);
        x.stop(2);
        due.is("when(4), stopped", x.when(4), -1);
        due.is("often(4), stopped", x.often(4), 0);
        due.is("when(5), one of two stopped", x.when(5), -1);
        due.is("when(0)", x.when(0), 0);
        due.says(22, "WHEN a set 0 .. 63 STRIKES at once");
        OrganDrums y = sixLong();
        due.is("when(63)", y.when(63), 0);
        due.is("often(63)", y.often(63), 27720);
        y.pin(5, 0);
        due.is("when(63)", y.when(63), 1);
        due.is("often(63)", y.often(63), 27720 / 7 * 6);
        due.is("when(31)", y.when(31), 0);
    }

    private void setsThatAreNotThere() {
        for (int drums = 0; drums <= 6; drums++) {
            OrganDrums x = new OrganDrums();
            for (int d = 0; d < drums; d++) {
                x.drum(2, 0, 0, 1);
            }
            int all = (1 << drums) - 1;
            due.says(22, "NONE (never; one is not there, others)");
            due.is("when(" + all + ") of " + drums, x.when(all), 0);
            for (int set : new int[] {all + 1, 64, 63 + 64, -1, LOW, HIGH}) {
                due.is("when(" + set + ") of " + drums, x.when(set), -1);
            }
            due.says(23, "NONE (one is not there, others)");
            due.is("often(" + all + ") of " + drums, x.often(all), 1);
            for (int set : new int[] {all + 1, 64, 63 + 64, -1, LOW, HIGH}) {
                due.is("often(" + set + ") of " + drums, x.often(set), -1);
            }
            due.says(30, "NONE (one is STOPPED, not there; it can't be)");
            due.is("add(" + all + ", 0) of " + drums, x.add(all, 0), drums == 0 ? -1 : 0);
            for (int set : new int[] {all + 1, 64, 63 + 64, -1, LOW, HIGH}) {
                due.is("add(" + set + ", 0) of " + drums, x.add(set, 0), -1);
                due.is("add(" + set + ", 1) of " + drums, x.add(set, 1), -1);
            }
            due.is("status()", x.status(), 0);
        }
    }

    private void alone() {
        due.says(24, "ALONE: at how many of these that DRUM STRIKES and no other one");
        OrganDrums x = drums(4, 0, 15);
        due.is("alone(0) of one", x.alone(0), 4);
        x.drum(4, 0, 0, 0);
        due.is("alone(0), the other has no pins", x.alone(0), 4);
        due.is("alone(1)", x.alone(1), 0);
        x.pin(1, 3);
        due.is("alone(0)", x.alone(0), 3);
        due.is("alone(1)", x.alone(1), 0);
        x.stop(0);
        due.is("alone(0), stopped", x.alone(0), 0);
        due.is("alone(1), the other stopped", x.alone(1), 1);
        due.says(24, "ALONE.");
        OrganDrums y = drums(2, 0, 1, 2, 0, 2, 2, 0, 0, 2, 0, 0, 2, 0, 0, 12, 0, 4095);
        due.is("alone(5)", y.alone(5), 0);
        y.pin(0, 0);
        due.is("alone(5)", y.alone(5), 6);
        due.is("alone(4)", y.alone(4), 0);
        due.says(24, "NONE.");
        for (int drum : new int[] {-1, 2, 6, LOW, HIGH}) {
            due.is("alone(" + drum + ")", x.alone(drum), -1);
        }
        due.is("alone(6)", y.alone(6), -1);
    }

    private void loudest(OrganDrums x, int loud, int first, int times) {
        due.is("loudest(0)", x.loudest(0), loud);
        due.is("loudest(1)", x.loudest(1), first);
        due.is("loudest(2)", x.loudest(2), times);
    }

    private void loudest() {
        due.says(25, "LOUDEST: the most it is LOUD at one of these");
        due.says(25, "the first such");
        due.says(25, "at how many of them");
        loudest(new OrganDrums(), 0, 0, 1);
        loudest(drums(5, 0, 0), 0, 0, 5);
        loudest(drums(5, 0, 16), 1, 4, 1);
        loudest(drums(5, 4, 16), 1, 0, 1);
        loudest(drums(5, 0, 31), 1, 0, 5);
        loudest(drums(5, 1, 1), 1, 4, 1);
        loudest(drums(3, 0, 4, 4, 0, 8), 2, 11, 1);
        loudest(drums(2, 0, 2, 3, 0, 4), 2, 5, 1);
        OrganDrums x = drums(6, 0, 21);
        Due.inForce(x, "sounds beat");
        loudest(x, 4, 4, 1);
        Due.inForce(x, "sounds 9-beat");
        loudest(x, 9, 0, 1);
        Due.inForce(x, "sounds 0");
        loudest(x, 0, 0, 6);
        OrganDrums y = sixLong();
        Due.inForce(y, "sounds 9");
        loudest(y, 54, 0, 27720);
        y.pin(0, 0);
        loudest(y, 54, 1, 27720 / 12 * 11);
        x.stop(0);
        loudest(x, 0, 0, 1);
        due.says(25, "LOUDEST: how LOUD (what 0), the first HOUR on (1), at how many (2)");
        due.is("loudest(2)", y.loudest(2), 25410);
        due.says(25, "NONE.");
        for (int what : new int[] {-1, 3, LOW, HIGH}) {
            due.is("loudest(" + what + ")", y.loudest(what), -1);
            due.is("loudest(" + what + ")", new OrganDrums().loudest(what), -1);
        }
    }

    private void quiet(OrganDrums x, int length, int first) {
        due.is("quiet(0)", x.quiet(0), length);
        due.is("quiet(1)", x.quiet(1), first);
    }

    private void quiet() {
        due.says(26, "(ROUND, if none ever does)");
        quiet(new OrganDrums(), 1, 0);
        quiet(drums(1, 0, 0), 1, 0);
        quiet(drums(12, 7, 0), 12, 0);
        quiet(drums(12, 7, 0, 11, 3, 0), 132, 0);
        OrganDrums x = drums(12, 0, 4095);
        x.stop(0);
        quiet(x, 1, 0);
        due.says(26, "QUIET: how long (what 0), the first HOUR on (1; NONE, if it is 0)");
        quiet(drums(1, 0, 1), 0, -1);
        quiet(drums(12, 5, 4095), 0, -1);
        quiet(drums(2, 0, 1, 2, 0, 2), 0, -1);
        due.says(26, "QUIET: the longest row of HOURS, one behind the other, at which none STRIKES, ROUND behind"
                + " ROUND");
        quiet(drums(6, 0, 1), 5, 1);
        quiet(drums(6, 1, 1), 5, 0);
        quiet(drums(6, 2, 1), 5, 5);
        quiet(drums(6, 0, 32), 5, 0);
        quiet(drums(6, 0, 12), 4, 4);
        quiet(drums(6, 0, 33), 4, 1);
        quiet(drums(12, 0, 0xffe), 1, 0);
        quiet(drums(12, 0, 0x7ff), 1, 11);
        quiet(drums(12, 0, 0x7fe), 2, 11);
        due.says(26, "the first of 0 .. ROUND less 1 at which such a row begins");
        quiet(drums(6, 0, 9), 2, 1);
        quiet(drums(6, 1, 9), 2, 0);
        quiet(drums(6, 2, 9), 2, 2);
        quiet(drums(8, 0, 0x2a), 3, 6);
        quiet(drums(8, 0, 0x55), 1, 1);
        quiet(drums(8, 0, 0xaa), 1, 0);
        quiet(drums(4, 0, 1, 6, 0, 1), 3, 1);
        quiet(drums(3, 0, 1, 2, 0, 1), 1, 1);
        due.says(26, "NONE.");
        for (int what : new int[] {-1, 2, LOW, HIGH}) {
            due.is("quiet(" + what + ")", drums(6, 0, 9).quiet(what), -1);
        }
    }

    private void shifted(OrganDrums x, int drum, int... all) {
        due.is("most(" + drum + ", 0)", x.most(drum, 0), all[0]);
        due.is("most(" + drum + ", 1)", x.most(drum, 1), all[1]);
        due.is("least(" + drum + ", 0)", x.least(drum, 0), all[2]);
        due.is("least(" + drum + ", 1)", x.least(drum, 1), all[3]);
    }

    private void mostAndLeast() {
        due.says(27, "MOST: the SHIFT 0 .. LONG less 1 of a DRUM behind which at the most of the HOURS of a ROUND"
                + " it STRIKES,"
                + " and another one at least");
        due.says(28, "LEAST: at the fewest");
        // The other one strikes now alone: only shifted by its last does drum 0 strike then.
        shifted(drums(12, 0, 2048, 12, 0, 1), 0, 11, 1, 0, 0);
        shifted(drums(12, 1, 1, 12, 0, 1), 0, 11, 1, 0, 0);
        shifted(drums(12, 0, 1, 12, 0, 0xffe), 0, 1, 1, 0, 0);
        shifted(drums(12, 0, 1, 12, 0, 0x7ff), 0, 0, 1, 1, 0);
        shifted(drums(12, 0, 0xfff, 12, 0, 0x7ff), 0, 0, 11, 0, 11);
        shifted(drums(2, 0, 1, 3, 0, 1), 0, 0, 1, 0, 1);
        shifted(drums(2, 0, 1, 4, 0, 1), 0, 0, 1, 1, 0);
        shifted(drums(2, 0, 1, 4, 0, 1), 1, 0, 1, 1, 0);
        shifted(drums(4, 3, 1, 4, 0, 3), 0, 0, 1, 2, 0);
        // Two others at once are counted once.
        shifted(drums(3, 0, 1, 3, 0, 1, 3, 0, 3), 0, 0, 1, 1, 0);
        due.says(27, "the lowest");
        shifted(drums(6, 0, 9, 6, 0, 1), 0, 0, 1, 1, 0);
        shifted(drums(6, 0, 18, 6, 0, 1), 0, 1, 1, 0, 0);
        due.says(27, "MOST: the SHIFT (what 0), at how many HOURS (1)");
        OrganDrums x = sixLong();
        due.is("most(5, 1)", x.most(5, 1), 27720);
        due.is("least(0, 1)", x.least(0, 1), 27720);
        due.is("most(5, 0)", x.most(5, 0), 0);
        due.says(28, "LEAST: the SHIFT (what 0), at how many HOURS (1)");
        due.is("least(0, 0)", x.least(0, 0), 0);
        due.says(27, "NONE (no such DRUM)");
        due.says(28, "NONE (no such DRUM)");
        for (int drum : new int[] {-1, 6, LOW, HIGH}) {
            for (int what = 0; what < 2; what++) {
                due.is("most(" + drum + ", " + what + ")", x.most(drum, what), -1);
                due.is("least(" + drum + ", " + what + ")", x.least(drum, what), -1);
                due.is("most(1, " + what + ") of one", drums(2, 0, 1).most(1, what), -1);
                due.is("least(1, " + what + ") of one", drums(2, 0, 1).least(1, what), -1);
            }
        }
        for (int what : new int[] {-1, 2, LOW, HIGH}) {
            due.is("most(0, " + what + ")", drums(2, 0, 1).most(0, what), -1);
            due.is("least(0, " + what + ")", drums(2, 0, 1).least(0, what), -1);
        }
    }

    private void shiftsOfOneDrum() {
        due.says(27, "it STRIKES, and another one at least");
        shifted(drums(1, 0, 1), 0, 0, 0, 0, 0);
        shifted(drums(12, 5, 4095), 0, 0, 0, 0, 0);
        shifted(drums(1, 0, 1, 1, 0, 1), 0, 0, 1, 0, 1);
        shifted(drums(5, 0, 0, 5, 0, 31), 0, 0, 0, 0, 0);
        shifted(drums(5, 0, 31, 5, 0, 0), 0, 0, 0, 0, 0);
        OrganDrums x = drums(5, 0, 2, 5, 0, 1);
        shifted(x, 0, 1, 1, 0, 0);
        x.stop(0);
        shifted(x, 0, 0, 0, 0, 0);
        x.stop(0);
        x.stop(1);
        shifted(x, 0, 0, 0, 0, 0);
        x.stop(1);
        x.shift(0, 1);
        shifted(x, 0, 0, 1, 1, 0);
        due.is("it is where it was", x.of(0, 2), 1);
    }

    private void never(OrganDrums x, int size, int set) {
        due.is("never(0)", x.never(0), size);
        due.is("never(1)", x.never(1), set);
    }

    private void never() {
        due.says(29, "NEVER: the fewest DRUMS, one at least, that do not STRIKE at once at any HOUR of a ROUND");
        never(drums(5, 0, 0), 1, 1);
        never(drums(1, 0, 1, 5, 0, 0), 1, 2);
        never(drums(2, 0, 1, 2, 0, 2), 2, 3);
        never(drums(3, 0, 3, 3, 0, 6, 3, 0, 5), 3, 7);
        never(drums(6, 0, 0x3e, 6, 0, 0x3d, 6, 0, 0x3b, 6, 0, 0x37, 6, 0, 0x2f, 6, 0, 0x1f), 6, 63);
        due.says(29, "the lowest as bits");
        never(drums(2, 0, 1, 2, 0, 2, 2, 0, 1), 2, 3);
        never(drums(2, 0, 1, 2, 0, 1, 2, 0, 2), 2, 5);
        never(drums(2, 0, 3, 2, 0, 1, 2, 0, 2), 2, 6);
        never(drums(5, 0, 1, 5, 0, 0, 5, 0, 0), 1, 2);
        OrganDrums x = drums(1, 0, 1, 1, 0, 1, 1, 0, 1, 1, 0, 1, 1, 0, 1, 1, 0, 1);
        due.says(29, "NONE (any of them do; no DRUMS)");
        never(x, -1, -1);
        never(new OrganDrums(), -1, -1);
        never(drums(1, 0, 1), -1, -1);
        never(drums(5, 0, 16, 7, 0, 1), -1, -1);
        x.stop(5);
        due.says(29, "NEVER: how many DRUMS (what 0), which, as bits (1)");
        never(x, 1, 32);
        x.stop(0);
        never(x, 1, 1);
        for (int what : new int[] {-1, 2, LOW, HIGH}) {
            due.is("never(" + what + ")", x.never(what), -1);
        }
    }

    private void add(OrganDrums x, int set, int pins, int first) {
        due.is("add(" + set + ", 0)", x.add(set, 0), pins);
        due.is("add(" + set + ", 1)", x.add(set, 1), first);
    }

    private void add() {
        due.says(30, "To ADD for a set 0 .. 63 of one at least: how many PINS (what 0; it STRIKES at once some"
                + " time: 0), the first"
                + " HOUR on (1)");
        add(drums(5, 0, 1), 0, -1, -1);
        add(drums(5, 0, 1), 1, 0, 0);
        add(drums(5, 1, 1), 1, 0, 4);
        add(drums(5, 0, 0), 1, 1, 0);
        add(drums(5, 0, 0, 5, 0, 0, 5, 0, 0, 5, 0, 0, 5, 0, 0, 5, 0, 0), 63, 6, 0);
        add(sixLong(), 63, 0, 0);
        due.says(30, "the first such HOUR");
        add(drums(4, 0, 8, 4, 0, 0), 3, 1, 3);
        add(drums(4, 0, 8, 4, 0, 4), 3, 1, 2);
        add(drums(4, 0, 8, 6, 0, 16), 3, 1, 3);
        add(drums(4, 0, 8, 6, 0, 32), 3, 0, 11);
        add(drums(2, 0, 1, 2, 0, 2, 2, 0, 2), 7, 1, 1);
        for (int what : new int[] {-1, 2, LOW, HIGH}) {
            due.is("add(1, " + what + ")", drums(5, 0, 1).add(1, what), -1);
        }
        due.says(30, "NONE (one is STOPPED, not there; it can't be)");
        OrganDrums x = drums(5, 0, 1, 5, 0, 1);
        x.stop(1);
        add(x, 1, 0, 0);
        add(x, 2, -1, -1);
        add(x, 3, -1, -1);
        x.stop(1);
        add(x, 3, 0, 0);
        due.is("no pin was put", x.count(2), 2);
    }

    private void addAtBarredBeats() {
        due.says(30, "To ADD: the fewest PINS, each at a BEAT that is not BARRED, by which all of a set STRIKE at"
                + " once at an HOUR"
                + " of a ROUND");
        OrganDrums x = drums(4, 0, 0, 4, 0, 1);
        Due.inForce(x, "bars if drum=0 and beat<3");
        add(x, 1, 1, 3);
        add(x, 3, 2, 3);
        Due.inForce(x, "bars if drum=0");
        due.says(30, "NONE (one is STOPPED, not there; it can't be)");
        add(x, 1, -1, -1);
        add(x, 3, -1, -1);
        add(x, 2, 0, 0);
        due.says(30, "each at a BEAT that is not BARRED");
        Due.inForce(x, "bars");
        add(x, 2, 0, 0);
        add(x, 1, -1, -1);
        OrganDrums y = drums(12, 1, 2, 11, 10, 1);
        Due.inForce(y, "bars");
        // Pins that are there strike at once, barred or not: the one every 12 hours, the other at 1, 12, 23 ..
        add(y, 3, 0, 12);
        Due.inForce(y, "bars if drum=1");
        y.pin(0, 1);
        add(y, 3, 1, 1);
    }

    private void addForEachDrum() {
        due.says(30, "each at a BEAT that is not BARRED");
        for (int d = 0; d < 6; d++) {
            OrganDrums x = drums(12, 0, 0, 12, 0, 0, 12, 0, 0, 12, 0, 0, 12, 0, 0, 12, 0, 0);
            Due.inForce(x, "bars if drum=" + d);
            add(x, 1 << d, -1, -1);
            add(x, 63, -1, -1);
            add(x, 63 - (1 << d), 5, 0);
            Due.inForce(x, "bars if drum=" + d + " and beat<11");
            add(x, 1 << d, 1, 11);
            add(x, 63, 6, 11);
            add(x, 63 - (1 << d), 5, 0);
            Due.inForce(x, "bars if drum=" + d + " and beat=0");
            add(x, 1 << d, 1, 1);
            add(x, 63 - (1 << d), 5, 0);
            Due.inForce(x, "bars if beat<11 or drum=" + d);
            add(x, 63 - (1 << d), 5, 11);
            add(x, 63, -1, -1);
            Due.inForce(x, "bars if beat=11");
            x.shift(d, 11);
            add(x, 1 << d, 1, 1);
            add(x, 63, 6, 1);
        }
    }

    private void tune() {
        due.says(31, "TUNE: the fewest HOURS, 1 at least, by which ROUND can be divided, behind which it is always"
                + " as LOUD as it"
                + " was");
        due.is("tune()", new OrganDrums().tune(), 1);
        int[] pins = {0xfff, 0x555, 0x249, 0x111, 0x041, 0x001, 0x000, 0x0db, 0x7ff, 0x6db, 0xaaa, 0x333};
        int[] tunes = {1, 2, 3, 4, 6, 12, 1, 12, 12, 3, 2, 4};
        for (int i = 0; i < pins.length; i++) {
            for (int at : new int[] {0, 1, 11}) {
                due.is("tune() of pins " + pins[i], drums(12, at, pins[i]).tune(), tunes[i]);
            }
        }
        due.is("tune() of 11", drums(11, 0, 1).tune(), 11);
        due.is("tune() of 9", drums(9, 0, 0x49).tune(), 3);
        due.is("tune() of 8", drums(8, 0, 0x55).tune(), 2);
        due.is("tune() of 7", drums(7, 0, 127).tune(), 1);
        // A row of 0, 1, 0, 1, 0 comes again behind 2 in places, but 5 can't be divided by 2.
        due.is("tune() of 5", drums(5, 0, 10).tune(), 5);
        due.is("tune(), one for the other", drums(2, 0, 1, 2, 0, 2).tune(), 1);
        due.is("tune() of 4 and 6", drums(4, 0, 1, 6, 0, 1).tune(), 12);
        due.is("tune() of 4 and 6", drums(4, 0, 5, 6, 0, 9).tune(), 6);
        OrganDrums x = drums(12, 0, 0xfff);
        Due.inForce(x, "sounds beat%4");
        due.is("tune()", x.tune(), 4);
        Due.inForce(x, "sounds beat/6");
        due.is("tune()", x.tune(), 12);
        Due.inForce(x, "sounds beat%6/3");
        due.is("tune()", x.tune(), 6);
        Due.inForce(x, "sounds 0");
        due.is("tune()", x.tune(), 1);
        x.stop(0);
        due.is("tune(), stopped", x.tune(), 1);
        due.says(31, "TUNE.");
        due.is("tune() of all that can be", sixLong().tune(), 1);
    }

    private void theLongestRound() {
        due.says(21, "the fewest HOURS, 1 at least, behind which all DRUMS");
        OrganDrums x = new OrganDrums();
        int[] lengths = {5, 7, 8, 9, 11, 12};
        for (int length : lengths) {
            x.drum(length, 0, 0, 1 << length - 1);
        }
        int round = 27720;
        due.is("round()", x.round(), round);
        due.is("when(63)", x.when(63), round - 1);
        due.is("often(63)", x.often(63), 1);
        loudest(x, 6, round - 1, 1);
        due.is("tune()", x.tune(), round);
        add(x, 63, 0, round - 1);
        never(x, -1, -1);
        due.is("loud(27719)", x.loud(round - 1), 6);
        due.is("loud(27720)", x.loud(round), 0);
        x.shift(5, 1);
        due.is("when(63)", x.when(63), -1);
        due.is("when(31)", x.when(31), round - 1);
        due.is("never(0)", x.never(0), 2);
        // At 8 and 12 beats: drum 2 strikes at 7 modulo 8, drum 5 now at 10 modulo 12.
        due.is("never(1)", x.never(1), 36);
        due.is("add(63, 0)", x.add(63, 0), 1);
        due.is("compare(-1)", x.compare(-1), 5544 + 3960 + 3465 + 3080 + 2520 + 2310);
        due.is("most(5, 0)", x.most(5, 0), mostShift());
    }

    /** Of 11, 10 and 9 beats, the first three and the last three of six: all strike at the last of 990 hours alone. */
    private void longRoundsOfThree() {
        int[] three = {11, 0, 1 << 10, 10, 0, 1 << 9, 9, 0, 1 << 8};
        OrganDrums x = drums(three);
        OrganDrums y = drums(1, 0, 0, 1, 0, 0, 1, 0, 0, 11, 0, 1 << 10, 10, 0, 1 << 9, 9, 0, 1 << 8);
        due.says(22, "the fewest HOURS on, 0 at least, at which all of it STRIKE");
        due.is("when(7)", x.when(7), 989);
        due.is("when(56)", y.when(56), 989);
        due.says(23, "OFTEN: at how many of the HOURS 0 .. ROUND less 1 on");
        due.is("often(7)", x.often(7), 1);
        due.is("often(56)", y.often(56), 1);
        due.says(25, "LOUDEST: the most it is LOUD at one of these");
        loudest(x, 3, 989, 1);
        loudest(y, 3, 989, 1);
        due.says(31, "TUNE: the fewest HOURS, 1 at least, by which ROUND can be divided");
        due.is("tune()", x.tune(), 990);
        due.is("tune()", y.tune(), 990);
        due.says(37, "how LOUD the HOURS of a ROUND are together");
        due.is("compare(-1)", x.compare(-1), 90 + 99 + 110);
        due.is("compare(-1)", y.compare(-1), 90 + 99 + 110);
    }

    /** Whatever was asked ahead of it, of whatever drums. */
    private void eachAskedAlone() {
        Object[][] asked = {{20, "loud", 2, 1}, {21, "round", 12}, {22, "when", 1, 6}, {23, "often", 4, 3}, {24, "alone", 2, 0},
            {25, "loudest", 2, 0}, {25, "loudest", 0, 1}, {25, "loudest", 6, 2}, {26, "quiet", 1, 0}, {26, "quiet", 11, 1},
            {27, "most", 1, 2, 0}, {27, "most", 3, 2, 1}, {28, "least", 0, 2, 0}, {28, "least", 2, 2, 1},
            {29, "never", 2, 0}, {29, "never", 5, 1}, {30, "add", 1, 5, 0}, {30, "add", 0, 5, 1}, {31, "tune", 12},
            {34, "canBe", 7}, {35, "listen", 0, 0}, {35, "listen", 2, 1}, {37, "compare", 17, -1}};
        for (Object[] call : asked) {
            int[] numbers = Calls.numbers(call, 3);
            due.says((Integer) call[0], "(On paper, n HOURS on");
            String name = (String) call[1];
            String told = Calls.told(name, numbers);
            due.is(told, Calls.call(drums(2, 0, 1, 3, 0, 3, 4, 0, 2), name, numbers), (Integer) call[2]);
            OrganDrums x = new OrganDrums();
            x.image(0);
            x.drum(5, 0, 0, 9);
            x.drum(6, 0, 1, 0);
            x.drum(7, 0, 2, 5);
            x.tune();
            x.never(0);
            x.add(7, 0);
            x.most(2, 0);
            x.back(0);
            x.drum(2, 0, 0, 1);
            x.drum(3, 0, 0, 3);
            x.drum(4, 0, 0, 2);
            due.is(told + " behind others", Calls.call(x, name, numbers), (Integer) call[2]);
        }
    }

    /** The shift by which drum 5 strikes with one of the others most often: counted here hour by hour. */
    private static int mostShift() {
        int[] lengths = {5, 7, 8, 9, 11};
        int best = -1;
        int most = -1;
        for (int shift = 0; shift < 12; shift++) {
            int times = 0;
            for (int h = 0; h < 27720; h++) {
                boolean other = false;
                for (int length : lengths) {
                    other |= h % length == length - 1;
                }
                times += other && (h + 1 + shift) % 12 == 11 ? 1 : 0;
            }
            if (times > most) {
                most = times;
                best = shift;
            }
        }
        return best;
    }

    private void allLeaveWhatStands() {
        Object[][] calls = {{20, "loud", 30000}, {20, "loud", -1}, {21, "round"}, {22, "when", 7}, {22, "when", 64},
            {23, "often", 7}, {23, "often", -1}, {24, "alone", 2}, {24, "alone", 6}, {25, "loudest", 2},
            {25, "loudest", 3}, {26, "quiet", 1}, {26, "quiet", 2}, {27, "most", 2, 0}, {27, "most", 6, 0},
            {28, "least", 2, 1}, {28, "least", 0, 2}, {29, "never", 1}, {29, "never", -1}, {30, "add", 1, 0},
            {30, "add", 64, 0}, {31, "tune"}};
        for (Object[] call : calls) {
            int[] numbers = Calls.numbers(call, 2);
            due.says((Integer) call[0], "(On paper, n HOURS on");
            Twins.leaves(due, Ways::busy, (String) call[1], numbers);
            Twins.leaves(due, Ways::full, (String) call[1], numbers);
        }
    }
}
