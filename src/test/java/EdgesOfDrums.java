/** Boundary cases of promises 1 to 5 and 14 to 19: drums, terms, the law in force, changes and what is undone. */
final class EdgesOfDrums {
    private static final int LOW = Integer.MIN_VALUE;
    private static final int HIGH = Integer.MAX_VALUE;

    private final Due due;

    private EdgesOfDrums(Due due) {
        this.due = due;
    }

    static void check(Due due) {
        EdgesOfDrums edges = new EdgesOfDrums(due);
        edges.nothingAtAll();
        edges.nothingThatStrikes();
        edges.lastDrumsThatCanBe();
        edges.firstDrumsThatCannot();
        edges.noRoomForADrum();
        edges.of();
        edges.strikes();
        edges.asks();
        edges.sounds();
        edges.wordsOfLaws();
        edges.terms();
        edges.force();
        edges.pin();
        edges.barred();
        edges.shift();
        edges.stop();
        edges.pass();
        edges.drops();
        edges.undo();
        edges.sixteenAreKept();
        edges.whatEndsUndoing();
        edges.whatLeavesUndoing();
    }

    private void nothingAtAll() {
        due.says(1, "A street without organs");
        OrganDrums x = new OrganDrums();
        int[] counts = {0, 0, 0, 0, 0, 0, 0, 0, 0, 0, 0, 0, -1, 0, 1, 0};
        for (int i = 0; i < counts.length; i++) {
            due.is("count(" + i + ")", x.count(i), counts[i]);
        }
        for (int what = 0; what < 6; what++) {
            due.is("of(0, " + what + ")", x.of(0, what), -1);
        }
        for (int what = 0; what < 3; what++) {
            due.is("asks(0, 0, " + what + ")", x.asks(0, 0, what), -1);
            due.is("drawn(0, " + what + ")", x.drawn(0, what), -1);
        }
        due.is("sleeves()", x.sleeves(), 0);
        due.is("fault()", x.fault(), -1);
        due.is("stopped()", x.stopped(), -1);
        due.is("status()", x.status(), 0);
        due.is("forget()", x.forget(), 0);
        due.is("canBe()", x.canBe(), 0);
        due.is("end(0)", x.end(0), 0);
        due.is("end(1)", x.end(1), -1);
        due.is("few(1, 1)", x.few(1, 1), 900_000_000_000L);
        Object[][] refused = {{-6, "row"}, {-6, "law"}, {-6, "orders"}, {-3, "undo"}, {-2, "force", 0}, {-2, "pin", 0, 0},
            {-2, "shift", 0, 1}, {-2, "stop", 0}, {-3, "days", 0, 1}, {-2, "back", 0}, {-2, "back", 1}};
        for (Object[] call : refused) {
            int[] numbers = Calls.numbers(call, 2);
            Twins.refused(due, Ways::empty, (Integer) call[0], (String) call[1], numbers);
        }
        due.is("pass()", x.pass(), 0);
        due.is("count(13)", x.count(13), 1);
        due.is("undo()", x.undo(), 3);
        due.is("count(13)", x.count(13), 0);
        due.is("orders()", Due.orders(x, "pass times 20"), 20);
        due.is("count(13)", x.count(13), 20);
        due.is("orders()", Due.orders(x, "pass; stop 0"), -3);
        due.is("image(0)", x.image(0), 0);
        due.is("force(-1)", x.force(-1), -1);
        due.says(1, "NONE = -1");
        due.is("NONE", OrganDrums.NONE, -1);
    }

    private void nothingThatStrikes() {
        due.says(1, "A street without organs");
        OrganDrums x = new OrganDrums();
        due.is("loud(0)", x.loud(0), 0);
        due.is("loud(30000)", x.loud(30000), 0);
        due.is("round()", x.round(), 1);
        due.is("when(0)", x.when(0), 0);
        due.is("when(1)", x.when(1), -1);
        due.is("often(0)", x.often(0), 1);
        due.is("often(1)", x.often(1), -1);
        due.is("alone(0)", x.alone(0), -1);
        int[] loudest = {0, 0, 1, -1};
        int[] quiet = {1, 0, -1, -1};
        for (int what = 0; what < 4; what++) {
            due.is("loudest(" + what + ")", x.loudest(what), loudest[what]);
            due.is("quiet(" + what + ")", x.quiet(what), quiet[what]);
            due.is("most(0, " + what + ")", x.most(0, what), -1);
            due.is("least(0, " + what + ")", x.least(0, what), -1);
            due.is("never(" + what + ")", x.never(what), -1);
            due.is("add(0, " + what + ")", x.add(0, what), -1);
            due.is("add(1, " + what + ")", x.add(1, what), -1);
            due.is("listen(" + what + ")", x.listen(what), -1);
        }
        due.is("tune()", x.tune(), 1);
        due.is("compare(-1)", x.compare(-1), 0);
        due.is("compare(0)", x.compare(0), -1);
        due.is("heard(0, 1)", x.heard(0, 1), 1);
        due.is("canBe()", x.canBe(), 0);
        due.is("law()", Due.law(x, "sounds 9"), 0);
        due.is("force(0)", x.force(0), -1);
        due.is("loud(0)", x.loud(0), 0);
        due.is("compare(0)", x.compare(0), 0);
    }

    private void lastDrumsThatCanBe() {
        int[][] drums = {{1, 0, 0, 0}, {1, 0, 0, 1}, {1, 3, 0, 1}, {2, 1, 1, 3}, {11, 2, 10, 2047}, {12, 0, 0, 0},
            {12, 3, 11, 4095}, {12, 0, 11, 2048}, {12, 3, 0, 1}};
        for (int[] d : drums) {
            due.says(2, "LONG 1 .. 12 BEATS");
            OrganDrums x = new OrganDrums();
            String told = Calls.told("drum", d);
            due.is(told, x.drum(d[0], d[1], d[2], d[3]), 0);
            due.is("status() behind " + told, x.status(), 0);
            for (int what = 0; what < 4; what++) {
                due.is("of(0, " + what + ") behind " + told, x.of(0, what), d[what]);
            }
            due.says(2, "STOPPED or not (at first)");
            due.is("of(0, 4) behind " + told, x.of(0, 4), 0);
            due.says(2, "Sets are told as bits (bit d: DRUM d; bit b: BEAT b)");
            due.is("of(0, 5) behind " + told, x.of(0, 5), d[3] >> d[2] & 1);
            due.is("canBe() behind " + told, x.canBe(), 1);
        }
        due.says(2, "A DRUM with PINS as bits: its number");
        OrganDrums x = new OrganDrums();
        for (int i = 0; i < 6; i++) {
            due.is("drum(" + (i + 1) + ", 0, 0, 1)", x.drum(i + 1, 0, 0, 1), i);
            due.is("count(0)", x.count(0), i + 1);
            due.is("canBe()", x.canBe(), (1 << i + 1) - 1);
        }
    }

    private void firstDrumsThatCannot() {
        due.says(2, "REFUSED by: -1 a number that can't be");
        int[][] numbers = {{0, 0, 0, 0}, {-1, 0, 0, 0}, {13, 0, 0, 0}, {LOW, 0, 0, 0}, {HIGH, 0, 0, 0}, {32, 0, 0, 0},
            {33, 0, 0, 1}, {3, -1, 0, 0}, {3, 4, 0, 0}, {3, LOW, 0, 0}, {3, HIGH, 0, 0}};
        refusedDrums(numbers);
        due.says(2, "-1 (AT, PINS beyond LONG, too)");
        int[][] beyond = {{1, 0, 1, 0}, {3, 0, 3, 0}, {3, 0, -1, 0}, {12, 0, 12, 0}, {12, 0, LOW, 0}, {12, 0, HIGH, 0},
            {1, 0, 0, 2}, {3, 0, 0, 8}, {3, 0, 0, -1}, {11, 0, 0, 2048}, {12, 0, 0, 4096}, {12, 0, 0, LOW},
            {12, 0, 0, HIGH}, {12, 0, 0, 65536}};
        refusedDrums(beyond);
    }

    private void refusedDrums(int[][] numbers) {
        for (int[] a : numbers) {
            Twins.refused(due, Ways::empty, -1, "drum", a);
            Twins.refused(due, Ways::busy, -1, "drum", a);
        }
    }

    private void noRoomForADrum() {
        due.says(2, "DRUMS 0 .. 5 (6 at most)");
        OrganDrums x = new OrganDrums();
        for (int i = 0; i < 6; i++) {
            due.is("drum(1, 0, 0, 0)", x.drum(1, 0, 0, 0), i);
        }
        due.is("drum(1, 0, 0, 0)", x.drum(1, 0, 0, 0), -5);
        due.is("count(0)", x.count(0), 6);
        due.is("of(5, 0)", x.of(5, 0), 1);
        due.is("of(6, 0)", x.of(6, 0), -1);
        due.says(2, "-5.");
        Twins.refused(due, Ways::full, -5, "drum", 1, 0, 0, 0);
        Twins.refused(due, Ways::full, -5, "drum", 12, 3, 11, 4095);
        due.says(2, "The first of these in that order");
        Twins.refused(due, Ways::full, -1, "drum", 13, 0, 0, 0);
        Twins.refused(due, Ways::full, -1, "drum", 12, 4, 0, 0);
    }

    private void of() {
        due.says(3, "NONE.");
        int[][] numbers = {{0, -1}, {0, 6}, {0, LOW}, {0, HIGH}, {-1, 0}, {3, 0}, {6, 0}, {LOW, 0}, {HIGH, 0}, {3, 5}};
        for (int[] a : numbers) {
            due.is(Calls.told("of", a), Ways.busy().of(a[0], a[1]), -1);
            Twins.leaves(due, Ways::busy, "of", a);
        }
        due.says(3, "Of a DRUM LONG (what 0), KIND (1), the BEAT it is AT (2), PINS as bits (3), whether STOPPED"
                + " (4: 1, 0)");
        int[][] all = {{4, 1, 1, 4, 0, 0}, {3, 2, 1, 3, 1, 0}, {12, 3, 11, 2065, 1, 0}};
        OrganDrums x = Ways.busy();
        for (int d = 0; d < all.length; d++) {
            for (int what = 0; what < 6; what++) {
                due.is("of(" + d + ", " + what + ")", x.of(d, what), all[d][what]);
            }
        }
        OrganDrums y = Ways.full();
        due.is("of(5, 0)", y.of(5, 0), 7);
        due.is("of(5, 3)", y.of(5, 3), 127);
        due.is("of(0, 3)", y.of(0, 3), 4095);
        due.is("of(0, 4)", y.of(0, 4), 1);
    }

    private void strikes() {
        due.says(3, "A DRUM STRIKES, if it is not STOPPED and has a PIN at the BEAT it is AT");
        for (int length = 1; length <= 12; length++) {
            int last = length - 1;
            OrganDrums x = new OrganDrums();
            x.drum(length, 0, last, 1 << last);
            due.is("of(0, 5) of a drum of " + length, x.of(0, 5), 1);
            x.stop(0);
            due.is("of(0, 5), stopped", x.of(0, 5), 0);
            x.stop(0);
            due.is("of(0, 5), no more stopped", x.of(0, 5), 1);
            x.pin(0, last);
            due.is("of(0, 5), the pin drawn", x.of(0, 5), 0);
            x.pin(0, last);
            x.shift(0, 1);
            due.is("of(0, 5), at beat 0", x.of(0, 5), length == 1 ? 1 : 0);
            due.is("count(1)", x.count(1), length == 1 ? 1 : 0);
        }
    }

    private void asks() {
        due.says(4, "NONE.");
        int[][] numbers = {{0, 0, -1}, {0, 0, 3}, {0, 0, LOW}, {0, 0, HIGH}, {0, -1, 0}, {0, 4, 0}, {1, 3, 1}, {2, 12, 2},
            {0, LOW, 0}, {0, HIGH, 0}, {-1, 0, 0}, {3, 0, 0}, {LOW, 0, 0}, {HIGH, 0, 0}};
        for (int[] a : numbers) {
            due.is(Calls.told("asks", a), Ways.busy().asks(a[0], a[1], a[2]), -1);
            Twins.leaves(due, Ways::busy, "asks", a);
        }
        due.says(4, "Of a DRUM at a BEAT of it by how much a PIN SOUNDS (what 0), whether it DROPS (1: 1, 0)");
        OrganDrums x = Ways.busy();
        due.is("asks(0, 3, 0)", x.asks(0, 3, 0), 5);
        due.is("asks(1, 2, 0)", x.asks(1, 2, 0), 4);
        due.is("asks(2, 11, 0)", x.asks(2, 11, 0), 9);
        due.is("asks(2, 0, 0)", x.asks(2, 0, 0), 2);
        due.is("asks(0, 0, 1)", x.asks(0, 0, 1), 0);
        due.is("asks(0, 3, 2)", x.asks(0, 3, 2), 1);
        due.is("asks(0, 2, 2)", x.asks(0, 2, 2), 0);
        x.terms(0, 3);
        due.is("asks(0, 0, 1)", x.asks(0, 0, 1), 1);
        due.is("asks(1, 0, 1)", x.asks(1, 0, 1), 0);
        due.says(4, "NONE at first: no CLAUSE");
        x.force(-1);
        for (int beat = 0; beat < 4; beat++) {
            due.is("asks(0, " + beat + ", 0)", x.asks(0, beat, 0), 1);
            due.is("asks(0, " + beat + ", 1)", x.asks(0, beat, 1), 0);
            due.is("asks(0, " + beat + ", 2)", x.asks(0, beat, 2), 0);
        }
    }

    private void asked(String law, int what, int want) {
        OrganDrums x = new OrganDrums();
        x.drum(3, 0, 0, 0);
        due.is("law() of " + law, Due.law(x, law), 0);
        x.force(0);
        due.is("asks(0, 1, " + what + ") by " + law, x.asks(0, 1, what), want);
    }

    private void sounds() {
        due.says(4, "A PIN there SOUNDS by 0 .. 9 as the last \"sounds\" that HOLDS tells (else the nearest), by 1"
                + " without");
        asked("sounds 0", 0, 0);
        asked("sounds 9", 0, 9);
        asked("sounds 10", 0, 9);
        asked("sounds 0-1", 0, 0);
        asked("sounds 1000", 0, 9);
        asked("sounds 1000*1000*1000", 0, 9);
        asked("sounds 0-1000*1000*1000", 0, 0);
        asked("drops", 0, 1);
        asked("sounds 5 if beat=0", 0, 1);
        asked("sounds 5; sounds 7", 0, 7);
        asked("sounds 7; sounds 5", 0, 5);
        asked("sounds 5; sounds 7 if beat=0", 0, 5);
        asked("sounds 3; sounds 5 if beat=1; sounds 7 if beat=2", 0, 5);
        asked("sounds 1;".repeat(11) + "sounds 8", 0, 8);
        due.says(4, "A CLAUSE HOLDS, if its \"if\" (if it has one) is so, and neither that nor its SUM is BROKEN");
        asked("sounds 4; sounds 1000*1000*1000+1", 0, 4);
        asked("sounds 4; sounds 0-1000*1000*1000-1", 0, 4);
        asked("sounds 4; sounds 8/0", 0, 4);
        asked("sounds 4; sounds 8%0", 0, 4);
        asked("sounds 4; sounds 8 if 1/0=1", 0, 4);
        asked("sounds 4; sounds 8 if not 1/0=1", 0, 4);
        asked("sounds 8/0", 0, 1);
        due.says(4, "it DROPS, if \"drops\" HOLDS");
        asked("drops", 1, 1);
        asked("drops if beat=1", 1, 1);
        asked("drops if beat=2", 1, 0);
        asked("drops if 1/0=1", 1, 0);
        asked("drops; drops if beat=2", 1, 1);
        asked("drops if beat=2; drops", 1, 1);
        asked("bars; sounds 3", 1, 0);
        asked("sounds 1;".repeat(11) + "drops", 1, 1);
        due.says(4, "a BEAT is BARRED, if \"bars\" HOLDS");
        asked("bars", 2, 1);
        asked("bars if beat=1", 2, 1);
        asked("bars if beat=2", 2, 0);
        asked("bars if 1%0=0", 2, 0);
        asked("bars if beat=2; bars", 2, 1);
        asked("drops; sounds 3", 2, 0);
        asked("drops;".repeat(11) + "bars", 2, 1);
    }

    private void wordsOfLaws() {
        due.says(4, "Words: \"drum\" | \"long\" | \"kind\" | \"beat\" | \"pins\" | \"hour\" | \"mood\"");
        String[] words = {"drum", "long", "kind", "beat", "pins", "hour", "mood"};
        int[] least = {0, 1, 0, 0, 0, 0, 0};
        int[] most = {5, 12, 3, 11, 12, 999, 9};
        for (int i = 0; i < words.length; i++) {
            OrganDrums x = new OrganDrums();
            x.drum(1, 0, 0, 0);
            for (int d = 1; d < 6; d++) {
                x.drum(12, 3, 0, 4095);
            }
            Due.inForce(x, "bars if " + words[i] + "=" + least[i]);
            due.is("asks(0, 0, 2) by " + words[i], x.asks(0, 0, 2), 1);
            Due.inForce(x, "bars if " + words[i] + "=" + most[i]);
            x.terms(0, 999);
            x.terms(2, 9);
            due.is("asks(5, 11, 2) by " + words[i], x.asks(5, 11, 2), 1);
        }
        due.says(4, "All are asked of a DRUM at a BEAT of it (pins: how many it has; hour: HOUR, as it is then)");
        OrganDrums x = new OrganDrums();
        x.drum(12, 0, 0, 0);
        Due.inForce(x, "sounds pins");
        for (int beat = 0; beat < 12; beat++) {
            due.is("asks(0, 0, 0) with " + beat + " pins", x.asks(0, 0, 0), Math.min(9, beat));
            x.pin(0, beat);
        }
        Due.inForce(x, "sounds hour");
        for (int hour = 0; hour < 9; hour++) {
            due.is("asks(0, 0, 0)", x.asks(0, 0, 0), hour);
            x.pass();
        }
    }

    private void terms() {
        due.says(5, "TERMS: 0 HOUR 0 .. 999 (0 at first), 1 SLIPS 0 .. 10 (1), 2 MOOD 0 .. 9 (0)");
        int[] most = {999, 10, 9};
        int[] first = {0, 1, 0};
        for (int what = 0; what < 3; what++) {
            OrganDrums x = new OrganDrums();
            due.is("terms(" + what + ", " + most[what] + ")", x.terms(what, most[what]), first[what]);
            due.says(5, "A TERM: what it was");
            due.is("terms(" + what + ", 0)", x.terms(what, 0), most[what]);
            due.is("terms(" + what + ", 0)", x.terms(what, 0), 0);
            due.is("count(" + (13 + what) + ")", x.count(13 + what), 0);
            due.says(5, "-1.");
            for (int value : new int[] {-1, most[what] + 1, LOW, HIGH}) {
                Twins.refused(due, Ways::busy, -1, "terms", what, value);
            }
        }
        for (int what : new int[] {-1, 3, LOW, HIGH}) {
            Twins.refused(due, Ways::busy, -1, "terms", what, 0);
            Twins.refused(due, Ways::full, -1, "terms", what, 1);
        }
    }

    private void force() {
        due.says(14, "A LAW is in FORCE (NONE: none): which was");
        OrganDrums x = Ways.full();
        due.is("force(0)", x.force(0), 5);
        due.is("force(0)", x.force(0), 0);
        due.is("force(5)", x.force(5), 0);
        due.is("force(-1)", x.force(-1), 5);
        due.is("force(-1)", x.force(-1), -1);
        due.is("status()", x.status(), 0);
        due.is("count(12)", x.count(12), -1);
        due.says(14, "-2 there is no such DRUM, LAW, IMAGE");
        for (int law : new int[] {-2, 2, 6, LOW, HIGH}) {
            Twins.refused(due, Ways::busy, -2, "force", law);
        }
        due.says(14, "-2.");
        for (int law : new int[] {-2, 6, 7}) {
            Twins.refused(due, Ways::full, -2, "force", law);
        }
        due.says(14, "It leaves what can be undone");
        for (int law = -1; law < 6; law++) {
            OrganDrums y = Ways.full();
            y.force(law);
            due.is("count(5)", y.count(5), 16);
            due.is("undo()", y.undo(), 2);
            due.is("undo()", y.undo(), 1);
            due.is("undo()", y.undo(), 3);
            due.is("count(12)", y.count(12), law);
        }
    }

    private void pin() {
        due.says(15, "To PIN: whether there is a PIN then (1, 0)");
        for (int length = 1; length <= 12; length++) {
            OrganDrums x = new OrganDrums();
            x.drum(length, 0, 0, 0);
            for (int beat : new int[] {0, length - 1}) {
                due.is("pin(0, " + beat + ")", x.pin(0, beat), 1);
                due.is("of(0, 3)", x.of(0, 3), 1 << beat);
                due.is("pin(0, " + beat + ")", x.pin(0, beat), 0);
                due.is("of(0, 3)", x.of(0, 3), 0);
            }
            due.says(15, "-3 (not a BEAT of it; BARRED)");
            for (int beat = length; beat < 12; beat++) {
                due.is("pin(0, " + beat + ")", x.pin(0, beat), -3);
            }
            due.says(15, "-1 (a BEAT 0 .. 11)");
            due.is("pin(0, 12)", x.pin(0, 12), -1);
            due.is("pin(0, -1)", x.pin(0, -1), -1);
            due.is("count(5)", x.count(5), 4);
        }
        for (int beat : new int[] {-1, 12, 32, LOW, HIGH}) {
            Twins.refused(due, Ways::busy, -1, "pin", 0, beat);
        }
        due.says(15, "-2;");
        for (int drum : new int[] {-1, 3, 6, LOW, HIGH}) {
            Twins.refused(due, Ways::busy, -2, "pin", drum, 0);
            Twins.refused(due, Ways::busy, -2, "pin", drum, 11);
        }
        due.says(15, "-3 it can't be by what stands");
        Twins.refused(due, Ways::busy, -3, "pin", 0, 4);
        Twins.refused(due, Ways::busy, -3, "pin", 1, 3);
        Twins.refused(due, Ways::busy, -3, "pin", 1, 11);
        Twins.refused(due, Ways::busy, -3, "pin", 0, 3);
        Twins.refused(due, Ways::busy, -3, "pin", 2, 3);
        due.says(15, "The first of these in that order");
        Twins.refused(due, Ways::busy, -1, "pin", 3, 12);
        Twins.refused(due, Ways::busy, -1, "pin", -1, -1);
        Twins.refused(due, Ways::busy, -2, "pin", 3, 3);
    }

    private void barred() {
        due.says(15, "To PIN at a BEAT: there is a PIN, if there was none and it is not BARRED, else none (a PIN"
                + " that is there"
                + " can always be drawn)");
        OrganDrums x = new OrganDrums();
        x.drum(12, 0, 0, 4095);
        Due.inForce(x, "bars");
        for (int beat = 0; beat < 12; beat++) {
            due.is("pin(0, " + beat + "), drawn", x.pin(0, beat), 0);
            due.is("pin(0, " + beat + "), barred", x.pin(0, beat), -3);
        }
        due.is("count(2)", x.count(2), 0);
        due.is("undo()", x.undo(), 0);
        due.is("a pin that is undone may be barred", x.of(0, 3), 2048);
        // A stopped drum takes pins as any other does.
        x.stop(0);
        x.force(-1);
        due.is("pin(0, 0)", x.pin(0, 0), 1);
        due.is("count(1)", x.count(1), 0);
    }

    private void shift() {
        due.says(16, "To SHIFT by n: a DRUM, STOPPED or not, is AT the BEAT n further on, round and round");
        for (int length = 1; length <= 12; length++) {
            for (int n = 1; n <= 11; n++) {
                OrganDrums x = new OrganDrums();
                x.drum(length, 0, length - 1, 0);
                String told = "shift(0, " + n + ") of a drum of " + length;
                int want = (length - 1 + n) % length;
                due.is(told, x.shift(0, n), want);
                due.is("of(0, 2)", x.of(0, 2), want);
                x.undo();
                x.stop(0);
                due.is(told + ", stopped", x.shift(0, n), want);
                due.is("of(0, 4)", x.of(0, 4), 1);
                due.is("count(13)", x.count(13), 0);
            }
        }
        due.says(16, "To SHIFT by 1 .. 11: the BEAT it is AT then");
        OrganDrums y = new OrganDrums();
        y.drum(12, 0, 0, 0);
        due.is("shift(0, 11)", y.shift(0, 11), 11);
        due.is("shift(0, 1)", y.shift(0, 1), 0);
        due.says(16, "-1;");
        for (int n : new int[] {0, 12, -1, LOW, HIGH}) {
            Twins.refused(due, Ways::busy, -1, "shift", 0, n);
        }
        due.says(16, "-2.");
        for (int drum : new int[] {-1, 3, 6, LOW, HIGH}) {
            Twins.refused(due, Ways::busy, -2, "shift", drum, 1);
            Twins.refused(due, Ways::busy, -2, "shift", drum, 11);
        }
        due.says(16, "The first of these in that order");
        Twins.refused(due, Ways::busy, -1, "shift", 3, 0);
        Twins.refused(due, Ways::busy, -1, "shift", -1, 12);
    }

    private void stop() {
        due.says(17, "To STOP: it is STOPPED, if it was not, else no more");
        OrganDrums x = new OrganDrums();
        for (int d = 0; d < 6; d++) {
            x.drum(2, 0, 0, 1);
        }
        for (int d = 0; d < 6; d++) {
            due.is("stop(" + d + ")", x.stop(d), 1);
            due.is("count(1)", x.count(1), 5 - d);
        }
        for (int d = 0; d < 6; d++) {
            due.says(17, "To STOP: whether it is STOPPED then (1, 0)");
            due.is("stop(" + d + ")", x.stop(d), 0);
            due.is("count(1)", x.count(1), d + 1);
        }
        due.says(17, "-2.");
        for (int drum : new int[] {-1, 3, 6, 32, LOW, HIGH}) {
            Twins.refused(due, Ways::busy, -2, "stop", drum);
        }
        Twins.refused(due, Ways::full, -2, "stop", 6);
    }

    private void pass() {
        due.says(18, "all DRUMS that are not STOPPED are AT the next BEAT (0 behind the last)");
        OrganDrums x = new OrganDrums();
        int[] lengths = {1, 2, 3, 11, 12, 12};
        for (int length : lengths) {
            x.drum(length, 0, length - 1, 1 << length - 1);
        }
        x.stop(5);
        due.says(18, "An HOUR: how LOUD it was ahead of it");
        due.is("pass()", x.pass(), 5);
        due.says(18, "all DRUMS that are not STOPPED are AT the next BEAT (0 behind the last)");
        for (int d = 0; d < 5; d++) {
            due.is("of(" + d + ", 2)", x.of(d, 2), 0);
        }
        due.is("of(5, 2)", x.of(5, 2), 11);
        due.is("pass()", x.pass(), 1);
        int[] next = {0, 1, 1, 1, 1, 11};
        for (int d = 0; d < 6; d++) {
            due.is("of(" + d + ", 2)", x.of(d, 2), next[d]);
        }
        due.says(18, "it is the next HOUR (at 999 it can't be)");
        due.is("count(13)", x.count(13), 2);
        x.terms(0, 998);
        due.is("pass()", x.pass(), 2);
        due.is("count(13)", x.count(13), 999);
        due.is("pass()", x.pass(), -3);
        due.is("count(13)", x.count(13), 999);
        due.is("undo()", x.undo(), 3);
        due.is("pass()", x.pass(), 2);
        due.says(18, "-3.");
        Twins.refused(due, Ways::full, -3, "pass");
        Twins.refused(due, () -> with(Ways.empty(), 999), -3, "pass");
    }

    private static OrganDrums with(OrganDrums x, int hour) {
        x.terms(0, hour);
        return x;
    }

    private void drops() {
        due.says(18, "An HOUR: of all DRUMS that STRIKE those PINS that DROP (all asked as it was ahead) are none");
        OrganDrums x = new OrganDrums();
        for (int d = 0; d < 6; d++) {
            x.drum(2, 0, d % 2, 3);
        }
        x.stop(4);
        Due.inForce(x, "drops if pins=2 and hour=0 and drum<5");
        due.is("pass()", x.pass(), 5);
        int[] pins = {2, 1, 2, 1, 3, 3};
        for (int d = 0; d < 6; d++) {
            due.is("of(" + d + ", 3)", x.of(d, 3), pins[d]);
        }
        due.is("pass(), at hour 1 none drops", x.pass(), 5);
        due.is("count(2)", x.count(2), 8);
        // The only pin of a drum drops, round and round there is none then.
        OrganDrums y = new OrganDrums();
        y.drum(1, 0, 0, 1);
        Due.inForce(y, "drops; sounds pins*4");
        due.is("pass(), asked as it was ahead", y.pass(), 4);
        due.is("of(0, 3)", y.of(0, 3), 0);
        due.is("pass()", y.pass(), 0);
        due.is("of(0, 2)", y.of(0, 2), 0);
        // A drum at a beat without a pin has none that could drop.
        OrganDrums z = new OrganDrums();
        z.drum(3, 0, 1, 5);
        Due.inForce(z, "drops");
        due.is("pass()", z.pass(), 0);
        due.is("of(0, 3)", z.of(0, 3), 5);
        due.is("pass(), at the last beat", z.pass(), 1);
        due.is("of(0, 3)", z.of(0, 3), 1);
        due.is("pass(), at beat 0", z.pass(), 1);
        due.is("of(0, 3)", z.of(0, 3), 0);
    }

    private void undo() {
        due.says(19, "is undone (PINS, the BEATS all are AT, who is STOPPED, HOUR are as they were): 0 .. 3");
        OrganDrums x = new OrganDrums();
        for (int d = 0; d < 6; d++) {
            x.drum(d + 1, d % 4, d, 1 << d);
        }
        Due.inForce(x, "drops");
        x.terms(0, 998);
        x.stop(2);
        due.is("pass()", x.pass(), 5);
        due.is("count(2)", x.count(2), 1);
        due.is("undo()", x.undo(), 3);
        due.is("status()", x.status(), 0);
        for (int d = 0; d < 6; d++) {
            due.is("of(" + d + ", 2)", x.of(d, 2), d);
            due.is("of(" + d + ", 3)", x.of(d, 3), 1 << d);
            due.is("of(" + d + ", 4)", x.of(d, 4), d == 2 ? 1 : 0);
        }
        due.is("count(13)", x.count(13), 998);
        due.is("undo()", x.undo(), 2);
        due.is("of(2, 4)", x.of(2, 4), 0);
        x.pin(5, 0);
        due.is("undo()", x.undo(), 0);
        due.is("of(5, 3)", x.of(5, 3), 32);
        x.pin(5, 5);
        due.is("undo()", x.undo(), 0);
        due.is("of(5, 3)", x.of(5, 3), 32);
        x.shift(5, 1);
        due.is("of(5, 2)", x.of(5, 2), 0);
        due.is("undo()", x.undo(), 1);
        due.is("of(5, 2)", x.of(5, 2), 5);
        due.says(19, "-3 there is none");
        due.is("undo()", x.undo(), -3);
        Twins.refused(due, Ways::empty, -3, "undo");
        Twins.refused(due, () -> with(Ways.busy(), 7), -3, "undo");
        Twins.refused(due, () -> with(Ways.full(), 7), -3, "undo");
    }

    private void sixteenAreKept() {
        due.says(19, "16 are kept");
        OrganDrums x = new OrganDrums();
        x.drum(12, 0, 0, 0);
        for (int i = 1; i <= 17; i++) {
            x.shift(0, i % 11 + 1);
            due.is("count(5)", x.count(5), Math.min(i, 16));
        }
        int first = 2;
        for (int i = 0; i < 16; i++) {
            due.is("undo()", x.undo(), 1);
            due.is("count(5)", x.count(5), 15 - i);
        }
        due.is("the first of seventeen stays", x.of(0, 2), first);
        due.is("undo()", x.undo(), -3);
        // Round and round: what fell out is not come back to, however many there were.
        OrganDrums y = new OrganDrums();
        y.drum(12, 0, 0, 0);
        for (int i = 0; i < 100; i++) {
            y.pass();
        }
        for (int i = 99; i >= 90; i--) {
            due.is("undo()", y.undo(), 3);
            due.is("count(13)", y.count(13), i);
        }
        for (int i = 0; i < 10; i++) {
            y.stop(0);
        }
        due.is("count(5)", y.count(5), 16);
        for (int i = 0; i < 10; i++) {
            due.is("undo()", y.undo(), 2);
        }
        for (int i = 89; i >= 84; i--) {
            due.is("undo()", y.undo(), 3);
            due.is("count(13)", y.count(13), i);
        }
        due.is("undo()", y.undo(), -3);
        due.says(19, "The latest pin(), shift(), stop(), pass() (by ORDERS, too; 16 are kept)");
        due.is("orders()", Due.orders(y, "stop 0 times 15"), 15);
        due.is("count(5)", y.count(5), 15);
        due.is("orders()", Due.orders(y, "pin 0 at 11; shift 0 by 11; pass"), 3);
        due.is("count(5)", y.count(5), 16);
        int[] kinds = {3, 1, 0, 2};
        for (int kind : kinds) {
            due.is("undo()", y.undo(), kind);
        }
        due.is("count(5)", y.count(5), 12);
    }

    private void whatEndsUndoing() {
        due.says(19, "(nothing that was ahead of a drum(), terms(), row(), back() that was not REFUSED can be undone)");
        Object[][] calls = {{"drum", 1, 0, 0, 0}, {"terms", 0, 4}, {"terms", 2, 7}, {"row"}, {"back", 0}};
        for (Object[] call : calls) {
            OrganDrums x = Ways.busy();
            int[] numbers = Calls.numbers(call, 1);
            String told = Calls.told((String) call[0], numbers);
            due.is(told + " is refused", Calls.call(x, (String) call[0], numbers) < 0 ? 1 : 0, 0);
            due.is("count(5) behind " + told, x.count(5), 0);
            due.is("undo() behind " + told, x.undo(), -3);
            x.stop(0);
            due.is("undo() of what came behind it", x.undo(), 2);
            due.is("undo()", x.undo(), -3);
        }
        OrganDrums x = Ways.busyWith("x");
        due.is("row(), no drum comes", x.row(), 0);
        due.is("count(5)", x.count(5), 0);
        OrganDrums y = Ways.full();
        due.is("row(), no room", y.row(), 0);
        due.is("count(5)", y.count(5), 0);
    }

    /** Those that are refused leave it, too: Twins looks at what can be undone behind each of them. */
    private void whatLeavesUndoing() {
        due.says(19, "(nothing that was ahead of a drum(), terms(), row(), back() that was not REFUSED can be undone)");
        Object[][] calls = {{"image", 0}, {"image", 1}, {"force", -1}, {"heard", 3, 1}, {"forget"}, {"days", 5, 60},
            {"feed", 1, 2, 3, 4, 5}, {"end", 0}};
        for (Object[] call : calls) {
            OrganDrums x = Ways.busy();
            int[] numbers = Calls.numbers(call, 1);
            String told = Calls.told((String) call[0], numbers);
            Calls.call(x, (String) call[0], numbers);
            due.is("count(5) behind " + told, x.count(5), 5);
            due.is("undo() behind " + told, x.undo(), 2);
            due.is("of(1, 4) behind " + told, x.of(1, 4), 0);
        }
        OrganDrums y = Ways.busyWith("bars");
        due.is("law()", y.law(), 2);
        due.is("count(5) behind law()", y.count(5), 5);
        due.is("orders() that run none", Due.orders(y, "stop 0 if 1=2"), 0);
        due.is("count(5) behind them", y.count(5), 5);
    }
}
