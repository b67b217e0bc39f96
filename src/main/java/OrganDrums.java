/**
 * Barrel organs whose drums play what a street will do. The promises that this class keeps are in DOC.md.
 *
 * <p>The rows that a question needs are made once, with the object that asks it, and used again: a call makes nothing
 * new, but for a law, which is kept.
 */
public final class OrganDrums {
    /** There is none. */
    public static final int NONE = -1;

    private static final int BAD_NUMBER = -1;
    private static final int NOT_THERE = -2;
    private static final int CANNOT_BE = -3;
    private static final int NO_ROOM = -5;
    private static final int BAD_TEXT = -6;

    private static final int DRUMS = 6;
    private static final int BEATS = 12;
    private static final int KINDS = 4;
    private static final int SETS = 64;
    private static final int LAWS = 6;
    private static final int HEARD = 6;
    private static final int HEARD_HOURS = 100;
    private static final int IMAGES = 2;
    private static final int LAST_HOUR = 999;
    private static final int LOUD_HOURS = 30000;
    private static final int LOUDEST_PIN = 9;
    private static final int TAPE = 400;
    private static final int UNDONE = 16;

    private static final int HOUR = 0;
    private static final int SLIPS = 1;
    private static final int MOOD = 2;
    private static final int[] TERMS_MOST = {LAST_HOUR, 10, 9};

    /* The clauses of laws bear the numbers that asks() gives them, those of orders the ones that undo() does. */
    private static final String LAW_CLAUSES = "sounds drops bars";
    private static final int SOUNDS = 0;
    private static final int DROPS = 1;
    private static final int BARS = 2;
    private static final String ORDER_CLAUSES = "pin shift stop pass";
    private static final int PIN = 0;
    private static final int SHIFT = 1;
    private static final int STOP = 2;
    private static final int PASS = 3;

    private static final String LAW_WORDS = "drum long kind beat pins hour mood";
    private static final int LAW_WORD_COUNT = 7;
    /* The last two are told of a drum: from there on there is one word for each drum. */
    private static final String ORDER_WORDS = "hour done latest loud all at pins";
    private static final int ORDER_WORDS_OF_DRUMS = 5;
    private static final int ORDER_WORD_COUNT = ORDER_WORDS_OF_DRUMS + 2 * DRUMS;

    private static final int CLAUSES = 12;
    private static final int PARTS = 50;
    private static final int BRACKETS = 8;
    private static final int LARGEST_NUMBER = 1000;
    private static final int MOST_TIMES = 20;
    private static final int LARGEST_SUM = 1000000000;
    private static final int BROKEN = -2000000000;

    /* A text of 400 bytes with 50 parts comes to some 250 steps. */
    private static final int STEPS = 512;
    private static final int STACK = 64;
    private static final int STEP_BITS = 4;
    private static final int STEP_MASK = 15;
    private static final int END = 0;
    private static final int NUMBER = 1;
    private static final int WORD = 2;
    private static final int NOT = 3;
    private static final int OR = 4;
    private static final int AND = 5;
    private static final int PLUS = 6;
    private static final int MINUS = 7;
    private static final int TIMES = 8;
    private static final int DIVIDED = 9;
    private static final int LEFT_OVER = 10;
    private static final int LESS = 11;
    private static final int MORE = 12;
    private static final int SAME = 13;

    private static final int DAYS_MOST = 60;
    private static final int SEED_MOST = 1000000;
    private static final int DRAW_FACTOR = 1103;
    private static final int DRAW_STEP = 12345;
    private static final int DRAW_MODULUS = 1000003;

    private static final int FEWER_MOST = 20;
    private static final int SLIPPING_MOST = 99;
    private static final long WHOLE_CHANCE = 1000000000000L;

    private final Street street = new Street();
    private final Street aheadOfOrders = new Street();
    private final Street paper = new Street();
    private final Street[] images = {new Street(), new Street()};
    private final boolean[] imageKept = new boolean[IMAGES];
    private final Past past = new Past();
    private final Past pastAheadOfOrders = new Past();
    private final Tape tape = new Tape();
    private final Reader reader = new Reader(tape);
    private final Asker asker = new Asker();
    private final Hand hand = new Hand(asker);
    private final Runner runner = new Runner(asker, hand);
    private final Round turning = new Round(asker);
    private final long[] chances = new long[FEWER_MOST];
    private final int[] refusals = new int[-BAD_TEXT + 1];
    private int latestRefusal = 0;
    private int latestFault = NONE;
    private int latestStopped = NONE;
    private int latestSleeves = 0;

    public OrganDrums() {
    }

    public int drum(int length, int kind, int at, int pins) {
        if (!Street.canHold(length, kind, at, pins)) {
            return refuse(BAD_NUMBER);
        }
        if (street.drums >= DRUMS) {
            return refuse(NO_ROOM);
        }
        street.take(length, kind, at, pins);
        past.clear();
        return accept(street.drums - 1);
    }

    public int of(int drum, int what) {
        if (!street.has(drum)) {
            return NONE;
        }
        switch (what) {
            case 0:
                return street.longs[drum];
            case 1:
                return street.kinds[drum];
            case 2:
                return street.beats[drum];
            case 3:
                return street.pins[drum];
            case 4:
                return street.isStopped(drum) ? 1 : 0;
            case 5:
                return street.strikesIn(drum, 0) ? 1 : 0;
            default:
                return NONE;
        }
    }

    public int asks(int drum, int beat, int what) {
        if (!street.hasBeat(drum, beat) || what < SOUNDS || what > BARS) {
            return NONE;
        }
        Text law = street.lawOf(street.inForce);
        if (what == SOUNDS) {
            return asker.sound(street, law, drum, beat);
        }
        return asker.holds(street, law, what, drum, beat) ? 1 : 0;
    }

    public int terms(int what, int value) {
        if (what < 0 || what >= TERMS_MOST.length || value < 0 || value > TERMS_MOST[what]) {
            return refuse(BAD_NUMBER);
        }
        int was = street.terms[what];
        street.terms[what] = value;
        past.clear();
        return accept(was);
    }

    public int feed(int a, int b, int c, int d, int e) {
        if (tape.length + 20 > TAPE) {
            return NONE;
        }
        tape.put(a);
        tape.put(b);
        tape.put(c);
        tape.put(d);
        tape.put(e);
        return tape.length;
    }

    public int end(int n) {
        if (n < 0 || n > tape.length) {
            return NONE;
        }
        tape.length = n;
        return n;
    }

    public int row() {
        if (tape.length == 0) {
            return refuse(BAD_TEXT);
        }
        int before = street.drums;
        int pieces = (tape.length + 3) / 4;
        for (int i = 0; i < pieces; i++) {
            takeFour(4 * i);
        }
        int came = street.drums - before;
        latestSleeves = pieces - came;
        tape.length = 0;
        past.clear();
        return accept(came);
    }

    public int sleeves() {
        return latestSleeves;
    }

    public int law() {
        if (street.lawCount >= LAWS) {
            tape.length = 0;
            return refuse(NO_ROOM);
        }
        latestFault = reader.read(true);
        tape.length = 0;
        if (latestFault != NONE) {
            return refuse(BAD_TEXT);
        }
        street.laws[street.lawCount] = reader.draft.copied();
        street.lawCount++;
        return accept(street.lawCount - 1);
    }

    public int orders() {
        latestStopped = NONE;
        latestFault = reader.read(false);
        tape.length = 0;
        if (latestFault != NONE) {
            return refuse(BAD_TEXT);
        }
        aheadOfOrders.become(street);
        pastAheadOfOrders.become(past);
        latestStopped = runner.run(reader.draft, street, past);
        if (latestStopped != NONE) {
            street.become(aheadOfOrders);
            past.become(pastAheadOfOrders);
            return refuse(CANNOT_BE);
        }
        return accept(runner.done);
    }

    public int fault() {
        return latestFault;
    }

    public int stopped() {
        return latestStopped;
    }

    public int force(int law) {
        if (law != NONE && street.lawOf(law) == null) {
            return refuse(NOT_THERE);
        }
        int was = street.inForce;
        street.inForce = law;
        return accept(was);
    }

    public int pin(int drum, int beat) {
        return settle(hand.change(street, past, PIN, drum, beat));
    }

    public int shift(int drum, int n) {
        return settle(hand.change(street, past, SHIFT, drum, n));
    }

    public int stop(int drum) {
        return settle(hand.change(street, past, STOP, drum, 0));
    }

    public int pass() {
        return settle(hand.change(street, past, PASS, 0, 0));
    }

    public int undo() {
        if (past.size == 0) {
            return refuse(CANNOT_BE);
        }
        return accept(past.giveBack(street));
    }

    public int loud(int h) {
        if (h < 0 || h > LOUD_HOURS) {
            return NONE;
        }
        return asker.loudIn(street, h);
    }

    public int round() {
        return street.roundOf(0, DRUMS);
    }

    public int when(int set) {
        if (!street.hasAll(set)) {
            return NONE;
        }
        turning.layStrikes(street);
        return turning.firstOf(set);
    }

    public int often(int set) {
        if (!street.hasAll(set)) {
            return NONE;
        }
        turning.layStrikes(street);
        return turning.timesOf(set, set);
    }

    public int alone(int drum) {
        if (!street.has(drum)) {
            return NONE;
        }
        turning.layStrikes(street);
        return turning.timesOf(SETS - 1, 1 << drum);
    }

    public int loudest(int what) {
        if (what < 0 || what > 2) {
            return NONE;
        }
        turning.laySounds(street, street.lawOf(street.inForce));
        return turning.loudestHour(what);
    }

    public int quiet(int what) {
        if (what < 0 || what > 1) {
            return NONE;
        }
        turning.layStrikes(street);
        return turning.longestQuiet(what);
    }

    public int most(int drum, int what) {
        if (!street.has(drum) || what < 0 || what > 1) {
            return NONE;
        }
        turning.layStrikes(street);
        return turning.bestShift(street, drum, true, what);
    }

    public int least(int drum, int what) {
        if (!street.has(drum) || what < 0 || what > 1) {
            return NONE;
        }
        turning.layStrikes(street);
        return turning.bestShift(street, drum, false, what);
    }

    public int never(int what) {
        if (what < 0 || what > 1) {
            return NONE;
        }
        turning.layStrikes(street);
        int set = turning.neverTogether(street.drums);
        if (set == 0) {
            return NONE;
        }
        return what == 0 ? Integer.bitCount(set) : set;
    }

    public int add(int set, int what) {
        if (set == 0 || !street.hasAll(set) || (set & street.stops) != 0 || what < 0 || what > 1) {
            return NONE;
        }
        turning.layStrikes(street);
        return turning.fewestPins(street, set, what);
    }

    public int tune() {
        turning.laySounds(street, street.lawOf(street.inForce));
        return turning.tuneHours();
    }

    public int heard(int h, int is) {
        if (h < 0 || h >= HEARD_HOURS || is < 0 || is > 1) {
            return refuse(BAD_NUMBER);
        }
        int n = street.heardCount;
        if (n >= HEARD) {
            return refuse(NO_ROOM);
        }
        street.heardHours[n] = h;
        street.heardStrikes[n] = is == 1;
        street.heardCount = n + 1;
        return accept(n + 1);
    }

    public int forget() {
        int n = street.heardCount;
        street.heardCount = 0;
        return n;
    }

    public int canBe() {
        return street.suspects();
    }

    public int listen(int what) {
        int set = street.suspects();
        if (set == 0 || what < 0 || what > 1) {
            return NONE;
        }
        int fewest = DRUMS + 1;
        int first = 0;
        for (int h = 0; h < HEARD_HOURS; h++) {
            int left = leftBehind(set, h);
            if (left < fewest) {
                fewest = left;
                first = h;
            }
        }
        return what == 0 ? first : fewest;
    }

    public long few(int k, int n) {
        if (k < 1 || k > FEWER_MOST || n < 0 || n > SLIPPING_MOST) {
            return NONE;
        }
        for (int i = 0; i < FEWER_MOST; i++) {
            chances[i] = i == 0 ? WHOLE_CHANCE : 0;
        }
        for (int i = 0; i < n; i++) {
            letOneSlip();
        }
        long together = 0;
        for (int i = 0; i < k; i++) {
            together += chances[i];
        }
        return together;
    }

    public int compare(int law) {
        if (law != NONE && street.lawOf(law) == null) {
            return NONE;
        }
        turning.laySounds(street, street.lawOf(law));
        return turning.loudTogether();
    }

    public int days(int seed, int n) {
        if (seed < 0 || seed > SEED_MOST || n < 1 || n > DAYS_MOST) {
            return refuse(BAD_NUMBER);
        }
        if (street.drums == 0) {
            return refuse(CANNOT_BE);
        }
        paper.become(street);
        int s = seed;
        int together = 0;
        for (int i = 0; i < n && paper.drums > 0 && paper.terms[HOUR] < LAST_HOUR; i++) {
            int drawnDrum = draw(s);
            int drawnBeat = draw(drawnDrum);
            s = draw(drawnBeat);
            hand.play(paper, s % 3, drawnDrum % paper.drums, drawnBeat % BEATS);
            together += hand.passHour(paper);
        }
        return accept(together);
    }

    public int drawn(int drum, int what) {
        // Ahead of any days() the paper is empty: it has no such drum.
        if (!paper.has(drum)) {
            return NONE;
        }
        switch (what) {
            case 0:
                return paper.pins[drum];
            case 1:
                return paper.beats[drum];
            case 2:
                return paper.isStopped(drum) ? 1 : 0;
            default:
                return NONE;
        }
    }

    public int image(int k) {
        if (k < 0 || k >= IMAGES) {
            return refuse(BAD_NUMBER);
        }
        images[k].become(street);
        imageKept[k] = true;
        return accept(0);
    }

    public int back(int k) {
        if (k < 0 || k >= IMAGES) {
            return refuse(BAD_NUMBER);
        }
        if (!imageKept[k]) {
            return refuse(NOT_THERE);
        }
        street.become(images[k]);
        past.clear();
        return accept(0);
    }

    public int count(int what) {
        switch (what) {
            case 0:
                return street.drums;
            case 1:
                return street.howManyStrike();
            case 2:
                return street.allPins();
            case 3:
                return street.heardCount;
            case 4:
                return street.lawCount;
            case 5:
                return past.size;
            case 6:
                return tape.length;
            case 7:
                return refusals[-BAD_NUMBER];
            case 8:
                return refusals[-NOT_THERE];
            case 9:
                return refusals[-CANNOT_BE];
            case 10:
                return refusals[-NO_ROOM];
            case 11:
                return refusals[-BAD_TEXT];
            case 12:
                return street.inForce;
            case 13:
                return street.terms[HOUR];
            case 14:
                return street.terms[SLIPS];
            case 15:
                return street.terms[MOOD];
            default:
                return NONE;
        }
    }

    public int status() {
        return latestRefusal;
    }

    private int accept(int answer) {
        latestRefusal = 0;
        return answer;
    }

    private int refuse(int why) {
        latestRefusal = why;
        if (-why >= 0 && -why < refusals.length) {
            refusals[-why]++;
        }
        return why;
    }

    /** For answers that are never below 0, unless they refuse. */
    private int settle(int answer) {
        return answer < 0 ? refuse(answer) : accept(answer);
    }

    private void takeFour(int from) {
        if (from < 0 || from + 4 > tape.length || tape.length > TAPE || street.drums >= DRUMS) {
            return;
        }
        int length = tape.bytes[from];
        int kind = tape.bytes[from + 1];
        int at = tape.bytes[from + 2];
        int pins = tape.bytes[from + 3];
        if (Street.canHold(length, kind, at, pins)) {
            street.take(length, kind, at, pins);
        }
    }

    private int leftBehind(int set, int hours) {
        int strike = 0;
        int keepStill = 0;
        for (int d = 0; d < street.drums; d++) {
            if ((set >> d & 1) != 0) {
                if (street.strikesIn(d, hours)) {
                    strike++;
                } else {
                    keepStill++;
                }
            }
        }
        return Math.max(strike, keepStill);
    }

    /** From the highest down, so that each chance still finds the one below it as it was. */
    private void letOneSlip() {
        long slips = street.terms[SLIPS];
        for (int i = FEWER_MOST - 1; i >= 0; i--) {
            long stay = chances[i] * (10 - slips) / 10;
            long come = i > 0 ? chances[i - 1] * slips / 10 : 0;
            chances[i] = stay + come;
        }
    }

    private static int draw(int s) {
        return (s * DRAW_FACTOR + DRAW_STEP) % DRAW_MODULUS;
    }

    /** All that an image keeps: the drums, the terms, the laws and what was heard. */
    private static final class Street {
        final int[] longs = new int[DRUMS];
        final int[] kinds = new int[DRUMS];
        final int[] beats = new int[DRUMS];
        final int[] pins = new int[DRUMS];
        final int[] terms = {0, 1, 0};
        final Text[] laws = new Text[LAWS];
        final int[] heardHours = new int[HEARD];
        final boolean[] heardStrikes = new boolean[HEARD];
        int drums = 0;
        int stops = 0;
        int lawCount = 0;
        int inForce = NONE;
        int heardCount = 0;

        void become(Street other) {
            for (int d = 0; d < DRUMS; d++) {
                longs[d] = other.longs[d];
                kinds[d] = other.kinds[d];
                beats[d] = other.beats[d];
                pins[d] = other.pins[d];
            }
            for (int i = 0; i < terms.length; i++) {
                terms[i] = other.terms[i];
            }
            // A law never changes once it is made, so that streets may share it.
            for (int i = 0; i < LAWS; i++) {
                laws[i] = other.laws[i];
            }
            for (int i = 0; i < HEARD; i++) {
                heardHours[i] = other.heardHours[i];
                heardStrikes[i] = other.heardStrikes[i];
            }
            drums = other.drums;
            stops = other.stops;
            lawCount = other.lawCount;
            inForce = other.inForce;
            heardCount = other.heardCount;
        }

        static boolean canHold(int length, int kind, int at, int pins) {
            return length >= 1 && length <= BEATS && kind >= 0 && kind < KINDS && at >= 0 && at < length
                    && pins >= 0 && pins < 1 << length;
        }

        void take(int length, int kind, int at, int bits) {
            if (drums < 0 || drums >= DRUMS) {
                return;
            }
            longs[drums] = length;
            kinds[drums] = kind;
            beats[drums] = at;
            pins[drums] = bits;
            drums++;
        }

        boolean has(int drum) {
            return drum >= 0 && drum < drums && drum < DRUMS;
        }

        boolean hasBeat(int drum, int beat) {
            return has(drum) && beat >= 0 && beat < longs[drum];
        }

        boolean hasAll(int set) {
            return set >= 0 && set < 1 << drums;
        }

        boolean hasPin(int drum, int beat) {
            return has(drum) && beat >= 0 && beat < longs[drum] && (pins[drum] >> beat & 1) != 0;
        }

        boolean isStopped(int drum) {
            return drum >= 0 && drum < DRUMS && (stops >> drum & 1) != 0;
        }

        /** The beat a drum is at so many hours on, on paper. */
        int beatIn(int drum, int hours) {
            if (!has(drum) || longs[drum] < 1) {
                return 0;
            }
            return isStopped(drum) ? beats[drum] : (beats[drum] + hours) % longs[drum];
        }

        boolean strikesIn(int drum, int hours) {
            return !isStopped(drum) && hasPin(drum, beatIn(drum, hours));
        }

        int howManyStrike() {
            int n = 0;
            for (int d = 0; d < drums; d++) {
                if (strikesIn(d, 0)) {
                    n++;
                }
            }
            return n;
        }

        int allPins() {
            int n = 0;
            for (int d = 0; d < drums && d < DRUMS; d++) {
                n += Integer.bitCount(pins[d]);
            }
            return n;
        }

        /** After how many hours some drums, those that are not stopped, are all where they are now. */
        int roundOf(int from, int to) {
            int hours = 1;
            for (int d = from; d < to; d++) {
                if (has(d) && !isStopped(d)) {
                    hours = multipleOf(hours, longs[d]);
                }
            }
            return hours;
        }

        private static int multipleOf(int hours, int length) {
            for (int n = 1; n <= BEATS; n++) {
                if (length > 0 && hours * n % length == 0) {
                    return hours * n;
                }
            }
            return hours;
        }

        /** The law of a number, null for none and for one that is not there. */
        Text lawOf(int number) {
            return number >= 0 && number < lawCount && number < LAWS ? laws[number] : null;
        }

        /** The drums that would have sounded as all that was heard, as bits. */
        int suspects() {
            int set = 0;
            for (int d = 0; d < drums; d++) {
                boolean fits = true;
                for (int i = 0; i < heardCount && i < HEARD; i++) {
                    fits = fits && strikesIn(d, heardHours[i]) == heardStrikes[i];
                }
                if (fits) {
                    set |= 1 << d;
                }
            }
            return set;
        }
    }

    /** What the latest changes changed, the oldest falling out when there are too many. */
    private static final class Past {
        private final int[] kinds = new int[UNDONE];
        private final int[] hours = new int[UNDONE];
        private final int[] stops = new int[UNDONE];
        private final int[] beats = new int[UNDONE * DRUMS];
        private final int[] pins = new int[UNDONE * DRUMS];
        private int first = 0;
        int size = 0;

        void clear() {
            first = 0;
            size = 0;
        }

        void keep(int kind, Street street) {
            if (size >= UNDONE) {
                first = (first + 1) % UNDONE;
                size = UNDONE - 1;
            }
            int slot = (first + size) % UNDONE;
            size++;
            kinds[slot] = kind;
            hours[slot] = street.terms[HOUR];
            stops[slot] = street.stops;
            for (int d = 0; d < DRUMS; d++) {
                beats[slot * DRUMS + d] = street.beats[d];
                pins[slot * DRUMS + d] = street.pins[d];
            }
        }

        /** The street is as it was ahead of the latest change: its kind. */
        int giveBack(Street street) {
            if (size <= 0) {
                return NONE;
            }
            size--;
            int slot = (first + size) % UNDONE;
            street.terms[HOUR] = hours[slot];
            street.stops = stops[slot];
            for (int d = 0; d < DRUMS; d++) {
                street.beats[d] = beats[slot * DRUMS + d];
                street.pins[d] = pins[slot * DRUMS + d];
            }
            return kinds[slot];
        }

        void become(Past other) {
            for (int i = 0; i < UNDONE; i++) {
                kinds[i] = other.kinds[i];
                hours[i] = other.hours[i];
                stops[i] = other.stops[i];
            }
            for (int i = 0; i < UNDONE * DRUMS; i++) {
                beats[i] = other.beats[i];
                pins[i] = other.pins[i];
            }
            first = other.first;
            size = other.size;
        }
    }

    /** The tape: bytes as numbers 0 .. 255. */
    private static final class Tape {
        final int[] bytes = new int[TAPE];
        int length = 0;

        void put(int number) {
            for (int shift = 24; shift >= 0 && length >= 0 && length < TAPE; shift -= 8) {
                bytes[length] = number >>> shift & 255;
                length++;
            }
        }
    }

    /** A text as it was read: of each clause its kind, how often, where its sums and its test begin in the steps. */
    private static final class Text {
        final int[] kinds;
        final int[] times;
        final int[] firsts;
        final int[] seconds;
        final int[] tests;
        final int[] steps;
        int clauses = 0;
        int size = 0;

        Text(int clauseRoom, int stepRoom) {
            int clausesHeld = Math.max(clauseRoom, 0);
            kinds = new int[clausesHeld];
            times = new int[clausesHeld];
            firsts = new int[clausesHeld];
            seconds = new int[clausesHeld];
            tests = new int[clausesHeld];
            steps = new int[Math.max(stepRoom, 0)];
        }

        /** The same text, in rows that are as long as it needs. */
        Text copied() {
            Text text = new Text(clauses, size);
            for (int c = 0; c < clauses && c < kinds.length; c++) {
                text.kinds[c] = kinds[c];
                text.times[c] = times[c];
                text.firsts[c] = firsts[c];
                text.seconds[c] = seconds[c];
                text.tests[c] = tests[c];
            }
            for (int i = 0; i < size && i < steps.length; i++) {
                text.steps[i] = steps[i];
            }
            text.clauses = clauses;
            text.size = size;
            return text;
        }

        void begin() {
            clauses = 0;
            size = 0;
        }

        /** Room for one more clause: its number. */
        int open(int kind) {
            int c = clauses;
            if (c < 0 || c >= kinds.length) {
                return NONE;
            }
            kinds[c] = kind;
            times[c] = 1;
            firsts[c] = NONE;
            seconds[c] = NONE;
            tests[c] = NONE;
            clauses++;
            return c;
        }

        /** One more step: its place. */
        int put(int step, int number) {
            if (size < 0 || size >= steps.length) {
                return NONE;
            }
            steps[size] = number << STEP_BITS | step;
            size++;
            return size - 1;
        }

        /** The step at a place goes on at the end of what is there now, when it leaves out what is behind it. */
        void land(int place) {
            if (place >= 0 && place < steps.length) {
                steps[place] = size << STEP_BITS | steps[place] & STEP_MASK;
            }
        }
    }

    /**
     * Reads a text from the tape into a draft. From its first fault on there is no token that could be taken, so that
     * all that is still to be read ends there.
     */
    private static final class Reader {
        private static final int NOTHING = 0;
        private static final int LETTERS = 1;
        private static final int DIGITS = 2;
        private static final int SIGN = 3;
        private static final int FAULTY = 4;

        final Text draft = new Text(CLAUSES, STEPS);
        private final Tape tape;
        private boolean isLaw = true;
        private int sort = NOTHING;
        private int start = 0;
        private int behind = 0;
        private int number = 0;
        private int parts = 0;
        private int fault = NONE;

        Reader(Tape tape) {
            this.tape = tape;
        }

        /** Reads a law, or else orders: where the fault is, NONE without. */
        int read(boolean asLaw) {
            isLaw = asLaw;
            behind = 0;
            parts = 0;
            fault = NONE;
            draft.begin();
            goOn();
            boolean due = true;
            for (int c = 0; c < CLAUSES && due; c++) {
                readClause();
                due = takeSign(';');
            }
            if (due || sort != NOTHING) {
                setFault();
            }
            return fault;
        }

        private void readClause() {
            int kind = wordIn(isLaw ? LAW_CLAUSES : ORDER_CLAUSES);
            int clause = kind == NONE ? NONE : draft.open(kind);
            if (clause == NONE) {
                setFault();
                return;
            }
            goOn();
            if (isLaw) {
                if (kind == SOUNDS) {
                    draft.firsts[clause] = draft.size;
                    readSum(0);
                    draft.put(END, 0);
                }
            } else {
                readOrder(clause, kind);
            }
            if (takeWord("if")) {
                draft.tests[clause] = draft.size;
                readTest(0);
                draft.put(END, 0);
            }
        }

        private void readOrder(int clause, int kind) {
            if (kind != PASS) {
                draft.firsts[clause] = draft.size;
                readSum(0);
                draft.put(END, 0);
            }
            if (kind == PIN || kind == SHIFT) {
                if (!takeWord(kind == PIN ? "at" : "by")) {
                    setFault();
                }
                draft.seconds[clause] = draft.size;
                readSum(0);
                draft.put(END, 0);
            }
            if (takeWord("times")) {
                if (sort != DIGITS || number < 1 || number > MOST_TIMES) {
                    setFault();
                    return;
                }
                draft.times[clause] = number;
                goOn();
            }
        }

        /** The depth is how many brackets are open: with eight open no ninth is read. */
        private void readTest(int depth) {
            readBoth(depth);
            for (int i = 0; i < TAPE && takeWord("or"); i++) {
                int step = draft.put(OR, 0);
                readBoth(depth);
                draft.land(step);
            }
        }

        private void readBoth(int depth) {
            readPlain(depth);
            for (int i = 0; i < TAPE && takeWord("and"); i++) {
                int step = draft.put(AND, 0);
                readPlain(depth);
                draft.land(step);
            }
        }

        /** A row of "not" is counted, not gone down into: it may be as long as the tape. */
        private void readPlain(int depth) {
            boolean turned = false;
            for (int i = 0; i < TAPE && takeWord("not"); i++) {
                turned = !turned;
            }
            if (isSign('(')) {
                if (depth >= BRACKETS) {
                    setFault();
                    return;
                }
                goOn();
                readTest(depth + 1);
                if (!takeSign(')')) {
                    setFault();
                }
            } else {
                readSum(depth);
                int step = stepOf('<', LESS, '>', MORE, '=', SAME);
                if (step == NONE) {
                    setFault();
                    return;
                }
                goOn();
                readSum(depth);
                draft.put(step, 0);
            }
            if (turned) {
                draft.put(NOT, 0);
            }
        }

        private void readSum(int depth) {
            readTerm(depth);
            int step = stepOf('+', PLUS, '-', MINUS, '-', MINUS);
            for (int i = 0; i < TAPE && step != NONE; i++) {
                goOn();
                readTerm(depth);
                draft.put(step, 0);
                step = stepOf('+', PLUS, '-', MINUS, '-', MINUS);
            }
        }

        private void readTerm(int depth) {
            readPart(depth);
            int step = stepOf('*', TIMES, '/', DIVIDED, '%', LEFT_OVER);
            for (int i = 0; i < TAPE && step != NONE; i++) {
                goOn();
                readPart(depth);
                draft.put(step, 0);
                step = stepOf('*', TIMES, '/', DIVIDED, '%', LEFT_OVER);
            }
        }

        private void readPart(int depth) {
            if (isSign('[')) {
                if (depth >= BRACKETS) {
                    setFault();
                    return;
                }
                goOn();
                readSum(depth + 1);
                if (!takeSign(']')) {
                    setFault();
                }
                return;
            }
            int word = wordIn(isLaw ? LAW_WORDS : ORDER_WORDS);
            boolean isNumber = sort == DIGITS && number <= LARGEST_NUMBER;
            if (parts >= PARTS || word == NONE && !isNumber) {
                setFault();
                return;
            }
            parts++;
            if (isNumber) {
                draft.put(NUMBER, number);
                goOn();
            } else {
                goOn();
                putWord(word);
            }
        }

        private void putWord(int word) {
            if (isLaw || word < ORDER_WORDS_OF_DRUMS) {
                draft.put(WORD, word);
                return;
            }
            if (sort != DIGITS || number >= DRUMS) {
                setFault();
                return;
            }
            draft.put(WORD, ORDER_WORDS_OF_DRUMS + (word - ORDER_WORDS_OF_DRUMS) * DRUMS + number);
            goOn();
        }

        private void setFault() {
            if (fault == NONE) {
                fault = start;
                sort = FAULTY;
            }
        }

        private int stepOf(char a, int stepA, char b, int stepB, char c, int stepC) {
            if (isSign(a)) {
                return stepA;
            }
            if (isSign(b)) {
                return stepB;
            }
            return isSign(c) ? stepC : NONE;
        }

        private boolean isSign(char sign) {
            return sort == SIGN && byteAt(start) == sign;
        }

        private boolean takeSign(char sign) {
            boolean is = isSign(sign);
            if (is) {
                goOn();
            }
            return is;
        }

        private boolean takeWord(String word) {
            boolean is = wordIn(word) != NONE;
            if (is) {
                goOn();
            }
            return is;
        }

        /** Which of the words of a list, with single blanks between, the token is. */
        private int wordIn(String list) {
            int index = 0;
            int from = 0;
            for (int i = 0; i <= list.length(); i++) {
                if (i == list.length() || list.charAt(i) == ' ') {
                    if (sort == LETTERS && spells(list, from, i)) {
                        return index;
                    }
                    index++;
                    from = i + 1;
                }
            }
            return NONE;
        }

        private boolean spells(String list, int from, int to) {
            boolean same = to - from == behind - start && start >= 0 && behind <= TAPE;
            for (int i = 0; i < behind - start && same; i++) {
                same = tape.bytes[start + i] == list.charAt(from + i);
            }
            return same;
        }

        /** The token behind the one that is taken; at the end an empty one, at the text's length. */
        private void goOn() {
            start = behind;
            for (int i = 0; i < TAPE && byteAt(start) == ' '; i++) {
                start++;
            }
            behind = start;
            number = 0;
            sort = sortOf(byteAt(start));
            if (sort == SIGN) {
                behind++;
            }
            if (sort == LETTERS || sort == DIGITS) {
                for (int i = 0; i < TAPE && sortOf(byteAt(behind)) == sort; i++) {
                    // A number may be as long as the tape: it stays just too large.
                    number = Math.min(number * 10 + byteAt(behind) - '0', LARGEST_NUMBER + 1);
                    behind++;
                }
            }
        }

        private static int sortOf(int sign) {
            if (sign == NONE) {
                return NOTHING;
            }
            if (sign >= 'a' && sign <= 'z') {
                return LETTERS;
            }
            return sign >= '0' && sign <= '9' ? DIGITS : SIGN;
        }

        private int byteAt(int place) {
            return place >= 0 && place < tape.length && place < TAPE ? tape.bytes[place] : NONE;
        }
    }

    /** Works out the steps of a sum or a test. */
    private static final class Sums {
        private final long[] stack = new long[STACK];

        /**
         * What the steps from a place on come to (a test: 1, 0); BROKEN, if one breaks. What is not there (NONE) is so.
         * Steps lead forwards alone.
         */
        int value(int[] steps, int from, int[] words) {
            if (from == NONE) {
                return 1;
            }
            int top = 0;
            int place = from;
            for (int i = 0; i < steps.length && place >= 0 && place < steps.length; i++) {
                int step = steps[place] & STEP_MASK;
                int number = steps[place] >>> STEP_BITS;
                place++;
                if (step == END) {
                    break;
                }
                if (step == NUMBER || step == WORD) {
                    if (top >= STACK || step == WORD && number >= words.length) {
                        return BROKEN;
                    }
                    stack[top] = step == NUMBER ? number : words[number];
                    top++;
                } else if (step == NOT && top > 0) {
                    stack[top - 1] = 1 - stack[top - 1];
                } else if ((step == OR || step == AND) && top > 0) {
                    // What stands behind is left out, if what is there settles it; else it takes its place.
                    if (stack[top - 1] == (step == OR ? 1 : 0)) {
                        place = number;
                    } else {
                        top--;
                    }
                } else if (top > 1) {
                    long joined = join(step, stack[top - 2], stack[top - 1]);
                    if (joined > LARGEST_SUM || joined < -LARGEST_SUM) {
                        return BROKEN;
                    }
                    top--;
                    stack[top - 1] = joined;
                } else {
                    return BROKEN;
                }
            }
            return top == 1 ? (int) stack[0] : BROKEN;
        }

        private static long join(int step, long left, long right) {
            switch (step) {
                case PLUS:
                    return left + right;
                case MINUS:
                    return left - right;
                case TIMES:
                    return left * right;
                case DIVIDED:
                    return right == 0 ? BROKEN : left / right;
                case LEFT_OVER:
                    return right == 0 ? BROKEN : left % right;
                case LESS:
                    return left < right ? 1 : 0;
                case MORE:
                    return left > right ? 1 : 0;
                case SAME:
                    return left == right ? 1 : 0;
                default:
                    return BROKEN;
            }
        }
    }

    /** Asks a law, null for none, of a drum at a beat. */
    private static final class Asker {
        final Sums sums = new Sums();
        private final int[] words = new int[LAW_WORD_COUNT];

        /** By how much a pin there sounds. */
        int sound(Street street, Text law, int drum, int beat) {
            if (law == null || !street.has(drum)) {
                return 1;
            }
            setWords(street, drum, beat);
            for (int c = law.clauses - 1; c >= 0 && c < law.kinds.length; c--) {
                if (law.kinds[c] == SOUNDS && sums.value(law.steps, law.tests[c], words) == 1) {
                    int value = sums.value(law.steps, law.firsts[c], words);
                    if (value != BROKEN) {
                        return Math.max(0, Math.min(LOUDEST_PIN, value));
                    }
                }
            }
            return 1;
        }

        /** Whether a clause of a kind without a sum holds there. */
        boolean holds(Street street, Text law, int kind, int drum, int beat) {
            if (law == null || !street.has(drum)) {
                return false;
            }
            setWords(street, drum, beat);
            for (int c = 0; c < law.clauses && c < law.kinds.length; c++) {
                if (law.kinds[c] == kind && sums.value(law.steps, law.tests[c], words) == 1) {
                    return true;
                }
            }
            return false;
        }

        /** How loud it is so many hours on, on paper. */
        int loudIn(Street street, int hours) {
            Text law = street.lawOf(street.inForce);
            int together = 0;
            for (int d = 0; d < street.drums; d++) {
                if (street.strikesIn(d, hours)) {
                    together += sound(street, law, d, street.beatIn(d, hours));
                }
            }
            return together;
        }

        private void setWords(Street street, int drum, int beat) {
            words[0] = drum;
            words[1] = street.longs[drum];
            words[2] = street.kinds[drum];
            words[3] = beat;
            words[4] = Integer.bitCount(street.pins[drum]);
            words[5] = street.terms[HOUR];
            words[6] = street.terms[MOOD];
        }
    }

    /** Puts and draws pins, shifts and stops drums, lets hours pass. */
    private static final class Hand {
        private final Asker asker;

        Hand(Asker asker) {
            this.asker = asker;
        }

        /** A change that can be undone: its answer, or what it is refused by. */
        int change(Street street, Past past, int kind, int drum, int number) {
            int why = refusal(street, kind, drum, number);
            if (why != 0) {
                return why;
            }
            past.keep(kind, street);
            return kind == PASS ? passHour(street) : turn(street, kind, drum, number);
        }

        /** What came of the draws of a day: a pin that can't be is left. */
        void play(Street street, int kind, int drum, int beat) {
            int number = kind == SHIFT ? 1 : beat;
            if (refusal(street, kind, drum, number) == 0) {
                turn(street, kind, drum, number);
            }
        }

        /** 0, if the change can be. */
        private int refusal(Street street, int kind, int drum, int number) {
            if (kind == PASS) {
                return street.terms[HOUR] >= LAST_HOUR ? CANNOT_BE : 0;
            }
            if (kind == PIN && (number < 0 || number >= BEATS) || kind == SHIFT && (number < 1 || number >= BEATS)) {
                return BAD_NUMBER;
            }
            if (!street.has(drum)) {
                return NOT_THERE;
            }
            if (kind == PIN && !street.hasPin(drum, number)) {
                Text law = street.lawOf(street.inForce);
                if (!street.hasBeat(drum, number) || asker.holds(street, law, BARS, drum, number)) {
                    return CANNOT_BE;
                }
            }
            return 0;
        }

        /** A change of a drum, of which it is known that it can be: its answer. */
        private int turn(Street street, int kind, int drum, int number) {
            if (!street.has(drum) || street.longs[drum] < 1) {
                return NOT_THERE;
            }
            switch (kind) {
                case PIN:
                    street.pins[drum] ^= 1 << number;
                    return street.hasPin(drum, number) ? 1 : 0;
                case SHIFT:
                    street.beats[drum] = (street.beats[drum] + number) % street.longs[drum];
                    return street.beats[drum];
                default:
                    street.stops ^= 1 << drum;
                    return street.isStopped(drum) ? 1 : 0;
            }
        }

        /** An hour, of which it is known that it can be: how loud it was ahead of it. */
        int passHour(Street street) {
            int loud = asker.loudIn(street, 0);
            Text law = street.lawOf(street.inForce);
            // A law asks a drum of itself and of the terms alone: each may go on as soon as it was asked.
            for (int d = 0; d < street.drums && d < DRUMS; d++) {
                int beat = street.beats[d];
                if (street.strikesIn(d, 0) && asker.holds(street, law, DROPS, d, beat)) {
                    street.pins[d] &= ~(1 << beat);
                }
                street.beats[d] = street.beatIn(d, 1);
            }
            street.terms[HOUR]++;
            return loud;
        }
    }

    /** Runs orders on a street, up to the first that can't be. */
    private static final class Runner {
        private final Asker asker;
        private final Hand hand;
        private final int[] words = new int[ORDER_WORD_COUNT];
        private int latest = NONE;
        int done = 0;

        Runner(Asker asker, Hand hand) {
            this.asker = asker;
            this.hand = hand;
        }

        /** The clause that could not be, NONE without. */
        int run(Text text, Street street, Past past) {
            done = 0;
            latest = NONE;
            for (int c = 0; c < text.clauses && c < text.kinds.length; c++) {
                for (int i = 0; i < text.times[c] && i < MOST_TIMES; i++) {
                    setWords(street);
                    if (asker.sums.value(text.steps, text.tests[c], words) != 1) {
                        continue;
                    }
                    int first = asker.sums.value(text.steps, text.firsts[c], words);
                    int second = asker.sums.value(text.steps, text.seconds[c], words);
                    if (first == BROKEN || second == BROKEN) {
                        return c;
                    }
                    int answer = hand.change(street, past, text.kinds[c], first, second);
                    if (answer < 0) {
                        return c;
                    }
                    done++;
                    latest = text.kinds[c] == PASS ? answer : latest;
                }
            }
            return NONE;
        }

        private void setWords(Street street) {
            words[0] = street.terms[HOUR];
            words[1] = done;
            words[2] = latest;
            words[3] = asker.loudIn(street, 0);
            words[4] = street.allPins();
            for (int d = 0; d < DRUMS; d++) {
                boolean is = street.has(d);
                words[ORDER_WORDS_OF_DRUMS + d] = is ? street.beats[d] : NONE;
                words[ORDER_WORDS_OF_DRUMS + DRUMS + d] = is ? Integer.bitCount(street.pins[d]) : NONE;
            }
        }
    }

    /**
     * What strikes at each hour of a round. A round may have 27,720 hours: what three drums do together comes again
     * after 990 at most, so that two strips of these tell the whole of it. A cell of a strip has the drums that strike
     * as its lowest bits and how loud they are above these.
     */
    private static final class Round {
        private static final int STRIP = 990;
        private static final int HALF = DRUMS / 2;
        private static final int LOUD_SHIFT = DRUMS;
        private static final int[] PRIMES = {2, 3, 5, 7, 11};

        private final Asker asker;
        private final int[] lower = new int[STRIP];
        private final int[] upper = new int[STRIP];
        private final int[] cells = new int[BEATS];
        private final int[] meetings = new int[BEATS];
        private final int[] barred = new int[DRUMS];
        private final boolean[] together = new boolean[SETS];
        private int lowerHours = 1;
        private int upperHours = 1;
        private int hours = 1;

        Round(Asker asker) {
            this.asker = asker;
        }

        void layStrikes(Street street) {
            lay(street, null, false);
        }

        void laySounds(Street street, Text law) {
            lay(street, law, true);
        }

        private void lay(Street street, Text law, boolean withSounds) {
            hours = street.roundOf(0, DRUMS);
            lowerHours = Math.min(street.roundOf(0, HALF), STRIP);
            upperHours = Math.min(street.roundOf(HALF, DRUMS), STRIP);
            clear(lower, lowerHours);
            clear(upper, upperHours);
            for (int d = 0; d < street.drums && d < DRUMS; d++) {
                if (!street.isStopped(d)) {
                    setCells(street, d, law, withSounds);
                    if (d < HALF) {
                        layDrum(street, d, lower, lowerHours);
                    } else {
                        layDrum(street, d, upper, upperHours);
                    }
                }
            }
        }

        private static void clear(int[] row, int length) {
            for (int i = 0; i < length && i < row.length; i++) {
                row[i] = 0;
            }
        }

        private void setCells(Street street, int drum, Text law, boolean withSounds) {
            for (int b = 0; b < BEATS; b++) {
                cells[b] = street.hasPin(drum, b) ? 1 << drum : 0;
                if (withSounds && cells[b] != 0) {
                    cells[b] |= asker.sound(street, law, drum, b) << LOUD_SHIFT;
                }
            }
        }

        private void layDrum(Street street, int drum, int[] strip, int length) {
            int beat = street.beats[drum];
            for (int h = 0; h < length && h < strip.length; h++) {
                if (beat < 0 || beat >= BEATS) {
                    return;
                }
                strip[h] += cells[beat];
                beat = beat + 1 < street.longs[drum] ? beat + 1 : 0;
            }
        }

        private int cellIn(int h) {
            if (h < 0 || lowerHours < 1 || upperHours < 1) {
                return 0;
            }
            return lower[h % lowerHours] + upper[h % upperHours];
        }

        private int strikersIn(int h) {
            return cellIn(h) & SETS - 1;
        }

        private int loudnessIn(int h) {
            return cellIn(h) >> LOUD_SHIFT;
        }

        int firstOf(int set) {
            for (int h = 0; h < hours; h++) {
                if ((strikersIn(h) & set) == set) {
                    return h;
                }
            }
            return NONE;
        }

        /** At how many hours of the drums in a set just those wanted strike. */
        int timesOf(int set, int wanted) {
            int times = 0;
            for (int h = 0; h < hours; h++) {
                if ((strikersIn(h) & set) == wanted) {
                    times++;
                }
            }
            return times;
        }

        int loudTogether() {
            int sum = 0;
            for (int h = 0; h < hours; h++) {
                sum += loudnessIn(h);
            }
            return sum;
        }

        int loudestHour(int what) {
            int most = -1;
            int first = 0;
            int times = 0;
            for (int h = 0; h < hours; h++) {
                int loud = loudnessIn(h);
                if (loud > most) {
                    most = loud;
                    first = h;
                    times = 0;
                }
                if (loud == most) {
                    times++;
                }
            }
            if (what == 0) {
                return most;
            }
            return what == 1 ? first : times;
        }

        int longestQuiet(int what) {
            int strike = 0;
            while (strike < hours && strikersIn(strike) == 0) {
                strike++;
            }
            if (strike >= hours) {
                return what == 0 ? hours : 0;
            }
            int longest = 0;
            int first = NONE;
            int length = 0;
            // From behind an hour at which one strikes, round to it: so no row is cut in two.
            for (int h = strike + 1; h < strike + hours; h++) {
                length = strikersIn(h) == 0 ? length + 1 : 0;
                int begin = h - length + 1 < hours ? h - length + 1 : h - length + 1 - hours;
                if (length > longest || length > 0 && length == longest && begin < first) {
                    longest = length;
                    first = begin;
                }
            }
            return what == 0 ? longest : first;
        }

        /** The shift behind which a drum strikes with others at the most hours, or at the fewest. */
        int bestShift(Street street, int drum, boolean wantMost, int what) {
            int length = street.has(drum) ? street.longs[drum] : 0;
            if (length < 1 || length > BEATS) {
                return NONE;
            }
            setMeetings(street.beats[drum], length, SETS - 1 - (1 << drum));
            int best = NONE;
            int bestTimes = 0;
            for (int shift = 0; shift < length; shift++) {
                int times = 0;
                for (int b = 0; b < length; b++) {
                    if (!street.isStopped(drum) && street.hasPin(drum, (b + shift) % length)) {
                        times += meetings[b];
                    }
                }
                if (best == NONE || (wantMost ? times > bestTimes : times < bestTimes)) {
                    best = shift;
                    bestTimes = times;
                }
            }
            return what == 0 ? best : bestTimes;
        }

        /** For each beat at how many hours, while a drum would be there without a shift, others strike. */
        private void setMeetings(int at, int length, int others) {
            clear(meetings, BEATS);
            for (int h = 0; h < hours; h++) {
                if ((strikersIn(h) & others) != 0 && length > 0 && length <= BEATS && at >= 0) {
                    meetings[(at + h) % length]++;
                }
            }
        }

        /** The fewest drums that do not strike at once, the lowest as bits; 0 without. */
        int neverTogether(int drums) {
            for (int set = 0; set < SETS; set++) {
                together[set] = false;
            }
            for (int h = 0; h < hours; h++) {
                together[strikersIn(h)] = true;
            }
            int best = 0;
            for (int set = 1; set < 1 << drums && set < SETS; set++) {
                if ((best == 0 || Integer.bitCount(set) < Integer.bitCount(best)) && !isTogether(set)) {
                    best = set;
                }
            }
            return best;
        }

        private boolean isTogether(int set) {
            for (int strikers = 0; strikers < SETS; strikers++) {
                if (together[strikers] && (strikers & set) == set) {
                    return true;
                }
            }
            return false;
        }

        /** The fewest pins by which a set, of which none is stopped, strikes at once. */
        int fewestPins(Street street, int set, int what) {
            setBarred(street, set);
            int fewest = DRUMS + 1;
            int first = NONE;
            for (int h = 0; h < hours && fewest > 0; h++) {
                int missing = set & ~strikersIn(h);
                if (Integer.bitCount(missing) < fewest && canAdd(street, missing, h)) {
                    fewest = Integer.bitCount(missing);
                    first = h;
                }
            }
            if (first == NONE) {
                return NONE;
            }
            return what == 0 ? fewest : first;
        }

        private void setBarred(Street street, int set) {
            Text law = street.lawOf(street.inForce);
            for (int d = 0; d < DRUMS; d++) {
                barred[d] = 0;
                for (int b = 0; b < BEATS; b++) {
                    if ((set >> d & 1) != 0 && street.hasBeat(d, b) && asker.holds(street, law, BARS, d, b)) {
                        barred[d] |= 1 << b;
                    }
                }
            }
        }

        private boolean canAdd(Street street, int missing, int h) {
            for (int d = 0; d < DRUMS; d++) {
                if ((missing >> d & 1) != 0 && (barred[d] >> street.beatIn(d, h) & 1) != 0) {
                    return false;
                }
            }
            return true;
        }

        /**
         * Of two numbers of hours behind which it comes again their common measure is one, too: so the round can be cut
         * by prime after prime.
         */
        int tuneHours() {
            int tune = hours;
            for (int i = 0; i < PRIMES.length; i++) {
                for (int n = 0; n < BEATS && comesAgain(tune, PRIMES[i]); n++) {
                    tune /= PRIMES[i];
                }
            }
            return tune;
        }

        /** Whether a tune is one of so many times a shorter one. */
        private boolean comesAgain(int tune, int times) {
            if (times < 1 || tune % times != 0) {
                return false;
            }
            for (int h = 0; h < tune; h++) {
                if (loudnessIn(h) != loudnessIn(h + tune / times)) {
                    return false;
                }
            }
            return true;
        }
    }
}
