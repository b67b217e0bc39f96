/** Boundary cases of promises 38 to 43: days by draws, images, counts and the latest refusal; and of 512 calls. */
final class EdgesOfDays {
    private static final int LOW = Integer.MIN_VALUE;
    private static final int HIGH = Integer.MAX_VALUE;

    private final Due due;

    private EdgesOfDays(Due due) {
        this.due = due;
    }

    static void check(Due due) {
        EdgesOfDays edges = new EdgesOfDays(due);
        edges.refusedDays();
        edges.firstAndLastSeeds();
        edges.draws();
        edges.daysOfPins();
        edges.lastHour();
        edges.daysOnPaper();
        edges.drawn();
        edges.image();
        edges.fullImagesDiffer();
        edges.back();
        edges.imagesKeep();
        edges.imagesDoNotKeep();
        edges.count();
        edges.status();
        edges.manyCalls();
    }

    private void refusedDays() {
        due.says(38, "DAYS with a SEED, n 1 .. 60");
        int[][] wrong = {{0, 0}, {0, 61}, {0, -1}, {0, LOW}, {0, HIGH}, {-1, 1}, {1000001, 1}, {LOW, 1}, {HIGH, 1},
            {1000003, 60}};
        for (int[] a : wrong) {
            Twins.refused(due, Ways::busy, -1, "days", a);
        }
        due.says(38, "-3 there are no DRUMS");
        Twins.refused(due, Ways::empty, -3, "days", 0, 1);
        Twins.refused(due, Ways::empty, -3, "days", 1000000, 60);
        due.says(38, "The first of these in that order");
        Twins.refused(due, Ways::empty, -1, "days", 0, 0);
        Twins.refused(due, Ways::empty, -1, "days", -1, 1);
        due.says(38, "-1;");
        OrganDrums x = Ways.busy();
        due.is("days(0, 1)", x.days(0, 1) < 0 ? 1 : 0, 0);
        due.is("days(0, 60)", x.days(0, 60) < 0 ? 1 : 0, 0);
        due.is("days(1000000, 1)", x.days(1000000, 1) < 0 ? 1 : 0, 0);
        due.is("days(1000000, 60)", x.days(1000000, 60) < 0 ? 1 : 0, 0);
        due.is("status()", x.status(), 0);
    }

    /** What the document says of a draw, in numbers that can't run over. */
    private static long next(long s) {
        return (s * 1103 + 12345) % 1_000_003;
    }

    private void firstAndLastSeeds() {
        due.says(38, "s is the SEED (0 .. 1,000,000)");
        for (int seed : new int[] {0, 1, 999_999, 1_000_000}) {
            due.says(38, "a DRAW of m: s becomes (s times 1103 and 12345) modulo 1,000,003, it is s modulo m");
            for (int drums = 1; drums <= 6; drums++) {
                OrganDrums x = new OrganDrums();
                for (int d = 0; d < drums; d++) {
                    x.drum(12, 0, 0, 0);
                }
                long s1 = next(seed);
                long s2 = next(s1);
                long s3 = next(s2);
                due.is("days(" + seed + ", 1)", x.days(seed, 1), s3 % 3 == 0 && s2 % 12 == 0 ? 1 : 0);
                for (int d = 0; d < drums; d++) {
                    boolean is = d == s1 % drums;
                    boolean stopped = is && s3 % 3 == 2;
                    due.is("drawn(" + d + ", 0)", x.drawn(d, 0), is && s3 % 3 == 0 ? 1 << s2 % 12 : 0);
                    due.is("drawn(" + d + ", 1)", x.drawn(d, 1), stopped ? 0 : is && s3 % 3 == 1 ? 2 : 1);
                    due.is("drawn(" + d + ", 2)", x.drawn(d, 2), stopped ? 1 : 0);
                }
            }
        }
    }

    /** A seed by which the first day's last draw is so, and its second one, if that matters. */
    private static int seedFor(int what, int beat) {
        for (int seed = 0; seed <= 1_000_000; seed++) {
            long s2 = next(next(seed));
            if (next(s2) % 3 == what && (beat < 0 || s2 % 12 == beat)) {
                return seed;
            }
        }
        throw new IllegalArgumentException("there is no such seed");
    }

    private static OrganDrums one(int length, int at, int pins) {
        OrganDrums x = new OrganDrums();
        x.drum(length, 0, at, pins);
        return x;
    }

    private void day(OrganDrums x, int seed, int loud, int... drawn) {
        due.is("days(" + seed + ", 1)", x.days(seed, 1), loud);
        for (int what = 0; what < 3; what++) {
            due.is("drawn(0, " + what + ")", x.drawn(0, what), drawn[what]);
        }
    }

    private void draws() {
        due.says(38, "at 1 the DRUM is SHIFTED by one, at 2 it is STOPPED, or no more");
        int shift = seedFor(1, -1);
        int stop = seedFor(2, -1);
        // Shifted round to beat 0, where it strikes; then the hour passes.
        day(one(5, 4, 1), shift, 1, 1, 1, 0);
        day(one(5, 3, 1), shift, 0, 1, 0, 0);
        day(one(1, 0, 1), shift, 1, 1, 0, 0);
        day(one(5, 4, 16), stop, 0, 16, 4, 1);
        OrganDrums x = one(5, 4, 16);
        x.stop(0);
        day(x, stop, 1, 16, 0, 0);
        day(x, shift, 0, 16, 0, 1);
        due.says(38, "then the HOUR passes");
        day(one(5, 4, 0), seedFor(0, 11), 0, 0, 0, 0);
        day(one(12, 11, 0), seedFor(0, 11), 1, 2048, 0, 0);
    }

    private void daysOfPins() {
        due.says(38, "at 0 (the last DRAW) there is a PIN at that BEAT of that DRUM, or none, if pin() would not be"
                + " REFUSED");
        for (int beat = 0; beat < 12; beat++) {
            int seed = seedFor(0, beat);
            for (int length : new int[] {1, beat, beat + 1, 12}) {
                if (length < 1 || length > 12) {
                    continue;
                }
                boolean can = beat < length;
                int next = length == 1 ? 0 : 1;
                day(one(length, 0, 0), seed, can && beat == 0 ? 1 : 0, can ? 1 << beat : 0, next, 0);
                int all = (1 << length) - 1;
                day(one(length, 0, all), seed, can && beat == 0 ? 0 : 1, can ? all - (1 << beat) : all, next, 0);
                OrganDrums barred = one(length, 0, 0);
                Due.inForce(barred, "bars");
                day(barred, seed, 0, 0, next, 0);
                OrganDrums drawn = one(length, 0, all);
                Due.inForce(drawn, "bars");
                day(drawn, seed, can && beat == 0 ? 0 : 1, can ? all - (1 << beat) : all, next, 0);
            }
        }
    }

    private void lastHour() {
        due.says(38, "Each time (at HOUR 999 it ends)");
        OrganDrums x = new OrganDrums();
        x.drum(1, 0, 0, 1);
        x.drum(1, 0, 0, 1);
        Due.inForce(x, "sounds 1 if hour<998; sounds 5 if hour=998; sounds 9 if hour=999");
        x.terms(0, 999);
        due.is("days(0, 60) at 999", x.days(0, 60), 0);
        due.is("status()", x.status(), 0);
        for (int d = 0; d < 2; d++) {
            due.is("drawn(" + d + ", 0)", x.drawn(d, 0), 1);
            due.is("drawn(" + d + ", 2)", x.drawn(d, 2), 0);
        }
        x.terms(0, 998);
        int shift = seedFor(1, -1);
        due.is("days(" + shift + ", 1) at 998", x.days(shift, 1), 10);
        due.is("days(" + shift + ", 60) at 998", x.days(shift, 60), 10);
        x.terms(0, 997);
        due.is("days(" + shift + ", 1) at 997", x.days(shift, 1), 2);
        x.terms(0, 998);
        int one = x.days(0, 1);
        due.is("days(0, 60) at 998 is as days(0, 1)", x.days(0, 60), one);
        due.is("days(0, 2) at 998", x.days(0, 2), one);
        x.terms(0, 940);
        // From hour 940 on there are 59 days up to 999: one more can't be.
        due.is("days(3, 60) at 940 is as days(3, 59)", x.days(3, 60), x.days(3, 59));
        int[] less = {x.drawn(0, 0), x.drawn(0, 2), x.drawn(1, 0), x.drawn(1, 2)};
        x.days(3, 60);
        int[] same = {x.drawn(0, 0), x.drawn(0, 2), x.drawn(1, 0), x.drawn(1, 2)};
        for (int i = 0; i < 4; i++) {
            due.is("drawn behind 60 days from 940", same[i], less[i]);
        }
        due.is("count(13)", x.count(13), 940);
    }

    private void daysOnPaper() {
        due.says(38, "DAYS, kept as the latest: how LOUD all HOURS that passed in them were together");
        OrganDrums x = Ways.busy();
        OrganDrums y = Ways.busy();
        x.days(123456, 60);
        for (int d = 0; d < 3; d++) {
            for (int what = 0; what < 6; what++) {
                due.is("of(" + d + ", " + what + ")", x.of(d, what), y.of(d, what));
            }
        }
        int[] counts = {0, 1, 2, 3, 4, 5, 6, 12, 13, 14, 15};
        for (int what : counts) {
            due.is("count(" + what + ")", x.count(what), y.count(what));
        }
        due.is("undo()", x.undo(), 2);
        // Sixty hours of one drum that only the draws change: each is as loud as it stands then.
        OrganDrums z = one(1, 0, 1);
        Due.inForce(z, "drops");
        due.is("a pin drops in them", z.days(seedFor(1, -1), 1), 1);
        due.is("drawn(0, 0)", z.drawn(0, 0), 0);
        due.is("of(0, 3)", z.of(0, 3), 1);
        z.force(-1);
        long s = 5;
        int loud = 0;
        boolean stopped = false;
        boolean pin = true;
        for (int i = 0; i < 60; i++) {
            long beat = next(next(s));
            s = next(beat);
            stopped ^= s % 3 == 2;
            pin ^= s % 3 == 0 && beat % 12 == 0;
            loud += pin && !stopped ? 1 : 0;
        }
        due.is("days(5, 60)", z.days(5, 60), loud);
        due.is("drawn(0, 0)", z.drawn(0, 0), pin ? 1 : 0);
        due.is("drawn(0, 2)", z.drawn(0, 2), stopped ? 1 : 0);
    }

    private void drawn() {
        due.says(39, "NONE.");
        OrganDrums x = new OrganDrums();
        due.is("drawn(0, 0)", x.drawn(0, 0), -1);
        x.drum(3, 0, 0, 7);
        due.is("drawn(0, 0), there are no days yet", x.drawn(0, 0), -1);
        due.is("days(0, 0)", x.days(0, 0), -1);
        due.is("drawn(0, 0), they were refused", x.drawn(0, 0), -1);
        x.days(0, 1);
        for (int what : new int[] {-1, 3, LOW, HIGH}) {
            due.is("drawn(0, " + what + ")", x.drawn(0, what), -1);
        }
        for (int drum : new int[] {-1, 1, 6, LOW, HIGH}) {
            due.is("drawn(" + drum + ", 0)", x.drawn(drum, 0), -1);
        }
        due.is("status() is that of days()", x.status(), 0);
        x.drum(3, 0, 0, 7);
        due.is("drawn(1, 0), it came behind them", x.drawn(1, 0), -1);
        x.days(0, 1);
        due.says(39, "Behind the latest DAYS of a DRUM PINS as bits (what 0), the BEAT it is AT (1), whether"
                + " STOPPED (2: 1, 0)");
        due.is("drawn(1, 0)", x.drawn(1, 0), 7);
        OrganDrums y = one(12, 11, 4095);
        y.days(seedFor(2, -1), 1);
        due.is("drawn(0, 0)", y.drawn(0, 0), 4095);
        due.is("drawn(0, 1)", y.drawn(0, 1), 11);
        due.is("drawn(0, 2)", y.drawn(0, 2), 1);
        y.days(seedFor(1, -1), 1);
        due.is("drawn(0, 1)", y.drawn(0, 1), 1);
        due.is("drawn(0, 2)", y.drawn(0, 2), 0);
        y.pin(0, 0);
        y.stop(0);
        y.pass();
        y.undo();
        y.terms(0, 9);
        y.days(0, 61);
        y.days(-1, 1);
        due.is("drawn(0, 0) is that of the latest", y.drawn(0, 0), 4095);
        due.is("drawn(0, 1) is that of the latest", y.drawn(0, 1), 1);
        due.is("drawn(0, 2) is that of the latest", y.drawn(0, 2), 0);
        Twins.leaves(due, Ways::busy, "drawn", 0, 0);
        Twins.leaves(due, Ways::full, "drawn", 6, 3);
    }

    private void image() {
        due.says(40, "IMAGE k is kept: 0");
        OrganDrums x = Ways.busy();
        due.is("image(0)", x.image(0), 0);
        due.is("image(1)", x.image(1), 0);
        due.is("image(1), kept anew", x.image(1), 0);
        due.is("status()", x.status(), 0);
        due.says(40, "-1.");
        for (int k : new int[] {-1, 2, LOW, HIGH}) {
            Twins.refused(due, Ways::empty, -1, "image", k);
            Twins.refused(due, Ways::busy, -1, "image", k);
        }
        due.says(40, "IMAGES 0, 1 keep all");
        // Each on its own: what one keeps leaves the other, and the latest of each is what it is.
        OrganDrums y = new OrganDrums();
        y.image(0);
        y.drum(1, 0, 0, 0);
        y.image(1);
        y.drum(2, 0, 0, 0);
        due.is("back(0)", y.back(0), 0);
        due.is("count(0), an image of nothing", y.count(0), 0);
        due.is("back(1)", y.back(1), 0);
        due.is("count(0)", y.count(0), 1);
        y.drum(3, 0, 0, 0);
        y.image(0);
        y.back(1);
        due.is("count(0)", y.count(0), 1);
        y.back(0);
        due.is("count(0)", y.count(0), 2);
        due.is("of(1, 0)", y.of(1, 0), 3);
        due.is("of(2, 0)", y.of(2, 0), -1);
    }

    /** Two images, each as full as can be, and of one no drum, law or hour heard is as in the other. */
    private void fullImagesDiffer() {
        due.says(40, "IMAGES 0, 1 keep all");
        OrganDrums x = new OrganDrums();
        x.image(1);
        fill(x, 0);
        x.image(0);
        x.back(1);
        fill(x, 1);
        x.image(1);
        for (int k = 0; k < 3; k++) {
            int which = k % 2;
            due.is("back(" + which + ")", x.back(which), 0);
            for (int d = 0; d < 6; d++) {
                due.is("of(" + d + ", 0)", x.of(d, 0), 5 + which + d);
                due.is("of(" + d + ", 1)", x.of(d, 1), (d + which) % 4);
                due.is("of(" + d + ", 2)", x.of(d, 2), 3 + which);
                due.is("of(" + d + ", 3)", x.of(d, 3), 1 << 3 + which);
                due.is("of(" + d + ", 4)", x.of(d, 4), (d + which) % 2);
                x.force(d);
                due.is("asks(0, 0, 0) by law " + d, x.asks(0, 0, 0), d + 3 * which);
            }
            due.is("canBe()", x.canBe(), 1 << (which == 0 ? 4 : 5));
            for (int i = 0; i < 3; i++) {
                due.is("count(" + (13 + i) + ")", x.count(13 + i), 5 + i - which);
            }
        }
    }

    private static void fill(OrganDrums x, int which) {
        for (int d = 0; d < 6; d++) {
            x.drum(5 + which + d, (d + which) % 4, 3 + which, 1 << 3 + which);
            Due.law(x, "sounds " + (d + 3 * which));
        }
        for (int i = 0; i < 3; i++) {
            x.terms(i, 5 + i - which);
        }
        for (int d = 0; d < 6; d++) {
            if ((d + which) % 2 == 1) {
                x.stop(d);
            }
        }
        // Of those that are not stopped each strikes first where it is now, and next a whole turn on.
        int last = which == 0 ? 4 : 5;
        for (int i = 1; i <= 5; i++) {
            x.heard(i, 0);
        }
        x.heard(5 + which + last, 1);
    }

    private void back() {
        due.says(41, "-1;");
        for (int k : new int[] {-1, 2, LOW, HIGH}) {
            Twins.refused(due, Ways::empty, -1, "back", k);
            Twins.refused(due, Ways::busy, -1, "back", k);
            Twins.refused(due, Ways::full, -1, "back", k);
        }
        due.says(41, "-2 it was not kept");
        Twins.refused(due, Ways::empty, -2, "back", 0);
        Twins.refused(due, Ways::empty, -2, "back", 1);
        Twins.refused(due, Ways::busy, -2, "back", 1);
        due.says(41, "BACK to IMAGE k: 0");
        OrganDrums x = Ways.full();
        due.is("back(0)", x.back(0), 0);
        due.is("status()", x.status(), 0);
        due.is("count(13)", x.count(13), 0);
        due.is("count(14)", x.count(14), 1);
        due.is("back(1)", x.back(1), 0);
        due.is("count(13)", x.count(13), 985);
        due.is("count(14)", x.count(14), 10);
        due.says(41, "BACK to one all that it keeps is as it was then (IMAGES stay)");
        for (int i = 0; i < 3; i++) {
            due.is("stop(0)", x.stop(0), 1);
            due.is("pass()", x.pass() > 0 ? 1 : 0, 1);
            due.is("back(1)", x.back(1), 0);
            due.is("of(0, 4)", x.of(0, 4), 0);
            due.is("of(0, 2)", x.of(0, 2), 0);
            due.is("count(13)", x.count(13), 985);
        }
    }

    /** Whatever comes behind an image, all is as it was then. */
    private void imagesKeep() {
        due.says(41, "BACK to one all that it keeps is as it was then (IMAGES stay)");
        for (int k = 0; k < 2; k++) {
            OrganDrums x = Ways.busy();
            OrganDrums y = Ways.busy();
            x.image(k);
            x.drum(7, 0, 6, 64);
            x.pin(0, 0);
            x.shift(1, 1);
            x.stop(2);
            x.stop(1);
            x.pass();
            x.terms(0, 800);
            x.terms(1, 9);
            x.terms(2, 1);
            x.heard(7, 1);
            x.end(0);
            Due.inForce(x, "sounds 6; bars");
            x.forget();
            x.heard(1, 0);
            due.is("back(" + k + ")", x.back(k), 0);
            for (int d = 0; d < 6; d++) {
                for (int what = 0; what < 6; what++) {
                    due.is("of(" + d + ", " + what + ")", x.of(d, what), y.of(d, what));
                }
                for (int what = 0; what < 3; what++) {
                    due.is("asks(" + d + ", 3, " + what + ")", x.asks(d, 3, what), y.asks(d, 3, what));
                }
            }
            for (int what : new int[] {0, 1, 2, 3, 4, 12, 13, 14, 15}) {
                due.is("count(" + what + ")", x.count(what), y.count(what));
            }
            due.is("canBe()", x.canBe(), y.canBe());
            due.is("compare(1)", x.compare(1), y.compare(1));
            due.is("compare(2)", x.compare(2), -1);
            due.is("few(2, 9)", x.few(2, 9), y.few(2, 9));
            due.is("heard(0, 0)", x.heard(0, 0), 3);
            due.is("a new drum comes behind those that were", x.drum(2, 0, 0, 0), 3);
            due.is("a new law comes behind those that were", Due.law(x, "bars"), 2);
        }
    }

    private void imagesDoNotKeep() {
        due.says(41, "keep all but the TAPE, FAULT, SLEEVES, where ORDERS stopped, what can be undone (nothing,"
                + " behind back()), the"
                + " latest DAYS");
        OrganDrums x = Ways.busy();
        x.image(1);
        due.is("image(1) leaves what can be undone", x.count(5), 5);
        x.end(0);
        Calls.tape(x, "xxxxx");
        x.row();
        Due.orders(x, "pass; pass; stop 9");
        Due.law(x, "?");
        x.days(seedFor(2, -1), 1);
        int pins = x.drawn(2, 0);
        x.stop(0);
        x.feed(1, 2, 3, 4, 5);
        x.end(19);
        int[] refused = new int[5];
        for (int i = 0; i < 5; i++) {
            refused[i] = x.count(7 + i);
        }
        for (int k = 0; k < 2; k++) {
            due.is("back(" + k + ")", x.back(k), 0);
            due.is("the TAPE", x.count(6), 19);
            due.is("FAULT", x.fault(), 0);
            due.is("SLEEVES", x.sleeves(), 2);
            due.is("where ORDERS stopped", x.stopped(), 2);
            due.is("the latest DAYS", x.drawn(2, 0), pins);
            due.is("what can be undone", x.count(5), 0);
            due.is("undo()", x.undo(), -3);
            refused[2]++;
            for (int i = 0; i < 5; i++) {
                due.says(42, "how many calls were REFUSED by -1, -2, -3, -5, -6 (IMAGES do not keep that)");
                due.is("count(" + (7 + i) + ")", x.count(7 + i), refused[i]);
            }
            due.says(41, "what can be undone (nothing, behind back())");
        }
        // Days of more drums than there are now stay as they were; so do those of nobody.
        OrganDrums y = new OrganDrums();
        y.image(0);
        y.drum(3, 0, 0, 7);
        y.days(0, 1);
        y.back(0);
        due.is("drawn(0, 0)", y.drawn(0, 0), 7);
        due.is("of(0, 0)", y.of(0, 0), -1);
        OrganDrums z = new OrganDrums();
        z.drum(3, 0, 0, 7);
        z.image(0);
        z.days(0, 1);
        z.back(0);
        z.image(0);
        due.is("drawn(0, 0)", z.drawn(0, 0), 7);
    }

    private void count() {
        due.says(42, "NONE for others");
        for (int what : new int[] {-1, 16, LOW, HIGH}) {
            due.is("count(" + what + ")", Ways.full().count(what), -1);
            Twins.leaves(due, Ways::full, "count", what);
        }
        due.says(42, "0 DRUMS, 1 how many STRIKE now, 2 PINS in all, 3 HEARD, 4 LAWS, 5 how many can be undone, 6"
                + " bytes of the TAPE");
        OrganDrums x = Ways.full();
        int[] full = {6, 5, 57, 6, 6, 16, 400, 0, 0, 0, 0, 0, 5, 999, 10, 9};
        for (int what = 0; what < full.length; what++) {
            due.is("count(" + what + ") of all that can be", x.count(what), full[what]);
        }
        x.stop(0);
        due.is("count(1), all strike", x.count(1), 6);
        OrganDrums y = Ways.busy();
        int[] busy = {3, 0, 6, 2, 2, 5, 5, 0, 0, 1, 0, 1, 0, 4, 2, 7};
        due.says(42, "12 the LAW in FORCE, 13 .. 15 TERMS 0 .. 2");
        for (int what = 0; what < busy.length; what++) {
            due.is("count(" + what + ")", y.count(what), busy[what]);
        }
        due.says(42, "7 .. 11 how many calls were REFUSED by -1, -2, -3, -5, -6");
        OrganDrums z = Ways.full();
        for (int i = 0; i < 7; i++) {
            z.drum(0, 0, 0, 0);
            due.is("count(7)", z.count(7), i + 1);
        }
        for (int i = 0; i < 5; i++) {
            z.stop(6);
        }
        for (int i = 0; i < 3; i++) {
            z.pass();
        }
        z.heard(0, 0);
        z.drum(1, 0, 0, 0);
        z.end(0);
        z.row();
        z.orders();
        z.orders();
        int[] refused = {7, 5, 3, 2, 3};
        for (int i = 0; i < 5; i++) {
            due.is("count(" + (7 + i) + ")", z.count(7 + i), refused[i]);
        }
        // Calls that answer NONE are not refused, whatever number they were given.
        Object[][] none = {{"of", 9, 9}, {"asks", 9, 9, 9}, {"feed", 0, 0, 0, 0, 0}, {"end", 401}, {"loud", -1}, {"when", -1},
            {"often", -1}, {"alone", 9}, {"loudest", 9}, {"quiet", 9}, {"most", 9, 9}, {"least", 9, 9}, {"never", 9},
            {"add", 0, 0}, {"listen", 9}, {"few", 0, 0}, {"compare", 9}, {"drawn", 9, 9}, {"count", 16}};
        for (Object[] call : none) {
            int[] numbers = Calls.numbers(call, 1);
            OrganDrums w = Ways.full();
            String told = Calls.told((String) call[0], numbers);
            due.is(told, Calls.call(w, (String) call[0], numbers), -1);
            for (int what = 7; what < 12; what++) {
                due.is("count(" + what + ") behind " + told, w.count(what), 0);
            }
        }
    }

    private void status() {
        due.says(43, "0 if it was not, or ahead of any");
        due.is("status()", new OrganDrums().status(), 0);
        OrganDrums x = new OrganDrums();
        x.of(0, 0);
        x.feed(0, 0, 0, 0, 0);
        x.end(0);
        x.forget();
        x.when(99);
        due.is("status()", x.status(), 0);
        due.says(43, "What the latest call of drum, terms, row, law, orders, force, pin, shift, stop, pass, undo,"
                + " heard, days, image,"
                + " back was REFUSED by");
        // Each of these once with a refusal ahead of it, which it must make forgotten.
        Object[][] fine = {{"drum", 1, 0, 0, 0}, {"terms", 0, 0}, {"row"}, {"force", -1}, {"pin", 0, 0}, {"shift", 0, 1},
            {"stop", 0}, {"pass"}, {"undo"}, {"heard", 0, 0}, {"days", 0, 1}, {"image", 0}, {"back", 0}};
        for (Object[] call : fine) {
            int[] numbers = Calls.numbers(call, 1);
            OrganDrums y = Ways.busy();
            y.stop(9);
            due.is("status()", y.status(), -2);
            due.is((String) call[0] + " is refused", Calls.call(y, (String) call[0], numbers) < -1 ? 1 : 0, 0);
            due.is("status() behind " + call[0], y.status(), 0);
        }
        OrganDrums y = Ways.busyWith("bars");
        y.stop(9);
        y.law();
        due.is("status() behind law", y.status(), 0);
        y.stop(9);
        Due.orders(y, "pass");
        due.is("status() behind orders", y.status(), 0);
        y.stop(9);
        y.forget();
        y.feed(0, 0, 0, 0, 0);
        y.end(0);
        y.fault();
        y.round();
        due.is("status() behind others", y.status(), -2);
        Twins.leaves(due, Ways::busy, "status");
        Twins.leaves(due, Ways::full, "status");
    }

    /** "An object is used for at most 512 calls": the last of them must be as good as the first. */
    private void manyCalls() {
        due.says(42, "how many calls were REFUSED");
        OrganDrums x = new OrganDrums();
        for (int i = 0; i < 511; i++) {
            x.drum(0, 0, 0, 0);
        }
        due.is("count(7), the 512th call", x.count(7), 511);
        OrganDrums y = new OrganDrums();
        y.drum(1, 0, 0, 1);
        y.image(0);
        for (int i = 0; i < 127; i++) {
            y.feed(0x736f756e, 0x64732030 + i % 10, 0x20202020, 0x20202020, 0x20202020);
            due.is("law() " + i, y.law(), 0);
            y.force(0);
            if (i < 126) {
                y.back(0);
            }
        }
        due.is("loud(0), the 512th call", y.loud(0), 126 % 10);
        OrganDrums z = new OrganDrums();
        z.drum(12, 0, 0, 0);
        for (int i = 0; i < 510; i++) {
            z.pass();
        }
        due.is("count(13), the 512th call", z.count(13), 510);
        // "shift 0 by 1+1+1-2;x": the last byte is cut off.
        OrganDrums w = new OrganDrums();
        w.drum(12, 0, 0, 0);
        for (int i = 0; i < 170; i++) {
            w.feed(0x73686966, 0x74203020, 0x62792031, 0x2b312b31, 0x2d323b78);
            w.end(18);
            due.is("orders() " + i, w.orders(), 1);
        }
        due.is("of(0, 2), the 512th call", w.of(0, 2), 170 % 12);
    }
}
