/** Boundary cases of promises 6 to 9: the tape and rows of drums; and of how texts are read, promises 10 to 12. */
final class EdgesOfTexts {
    private static final int LOW = Integer.MIN_VALUE;
    private static final int HIGH = Integer.MAX_VALUE;
    private static final int FINE = -1;

    private final Due due;

    private EdgesOfTexts(Due due) {
        this.due = due;
    }

    static void check(Due due) {
        EdgesOfTexts edges = new EdgesOfTexts(due);
        edges.feed();
        edges.bytesOfFeed();
        edges.end();
        edges.row();
        edges.rowOfOneDrum();
        edges.sleeves();
        edges.law();
        edges.lawsWithoutRoom();
        edges.blanksAlone();
        edges.tokens();
        edges.clauses();
        edges.parts();
        edges.brackets();
        edges.numbers();
        edges.sums();
        edges.tests();
        edges.clausesOfLaws();
        edges.clausesOfOrders();
        edges.wordsOfOrders();
        edges.spelling();
        edges.ends();
        edges.fault();
    }

    private static OrganDrums fed(int times) {
        OrganDrums x = new OrganDrums();
        for (int i = 0; i < times; i++) {
            x.feed(i, i, i, i, i);
        }
        return x;
    }

    private void feed() {
        due.says(6, "Twenty bytes come behind the TAPE, four of each number, the highest first: how many it has");
        OrganDrums x = new OrganDrums();
        for (int i = 1; i <= 20; i++) {
            due.is("feed(1, 2, 3, 4, 5)", x.feed(1, 2, 3, 4, 5), 20 * i);
            due.is("count(6)", x.count(6), 20 * i);
        }
        due.says(6, "TEXTS are on a TAPE of at most 400 bytes");
        due.is("feed(1, 2, 3, 4, 5)", x.feed(1, 2, 3, 4, 5), -1);
        due.is("count(6)", x.count(6), 400);
        due.says(6, "NONE, if there would be more than 400");
        for (int n : new int[] {381, 382, 399, 400}) {
            OrganDrums y = fed(20);
            y.end(n);
            due.is("feed() behind " + n, y.feed(0, 0, 0, 0, 0), -1);
            due.is("count(6)", y.count(6), n);
            due.is("status()", y.status(), 0);
            Twins.leaves(due, () -> fullUpTo(n), "feed", 1, 2, 3, 4, 5);
        }
        for (int n : new int[] {0, 1, 379, 380}) {
            OrganDrums y = fed(20);
            y.end(n);
            due.is("feed() behind " + n, y.feed(0, 0, 0, 0, 0), n + 20);
        }
    }

    private static OrganDrums fullUpTo(int n) {
        OrganDrums x = Ways.full();
        x.end(n);
        return x;
    }

    /** What feed() put is seen by what row() makes of it. */
    private void bytesOfFeed() {
        due.says(6, "four of each number, the highest first");
        OrganDrums x = new OrganDrums();
        x.feed(0x01000001, 0x02010103, 0x03020205, 0x0c030bff, 0x04010007);
        due.is("row()", x.row(), 5);
        int[][] drums = {{1, 0, 0, 1}, {2, 1, 1, 3}, {3, 2, 2, 5}, {12, 3, 11, 255}, {4, 1, 0, 7}};
        for (int d = 0; d < drums.length; d++) {
            for (int i = 0; i < 4; i++) {
                due.is("of(" + d + ", " + i + ")", x.of(d, i), drums[d][i]);
            }
        }
        OrganDrums y = new OrganDrums();
        y.feed(LOW, HIGH, -1, 0, 0x0c0000ff);
        due.is("row()", y.row(), 1);
        due.is("sleeves()", y.sleeves(), 4);
        due.is("a byte is 0 .. 255", y.of(0, 3), 255);
        // Behind n bytes the twenty come at once, however n stands to four.
        OrganDrums z = fed(1);
        z.end(0);
        Calls.tape(z, "dro");
        z.feed(0x70732020, 0x20202020, 0x20202020, 0x20202020, 0x20202020);
        due.is("law() of \"drops\" fed in two", z.law(), 0);
        OrganDrums w = new OrganDrums();
        for (int i = 0; i < 19; i++) {
            w.feed(0x20202020, 0x20202020, 0x20202020, 0x20202020, 0x20202020);
        }
        w.feed(0x20202020, 0x20202020, 0x20202020, 0x20202064, 0x726f7073);
        due.is("law() of 395 blanks and \"drops\"", w.law(), 0);
    }

    private void end() {
        due.says(7, "NONE, if it has not so many, or n is below 0");
        for (int n : new int[] {-1, 6, 400, 401, LOW, HIGH}) {
            due.is("end(" + n + ")", Ways.busy().end(n), -1);
            Twins.leaves(due, Ways::busy, "end", n);
        }
        for (int n : new int[] {-1, 401}) {
            due.is("end(" + n + ")", Ways.full().end(n), -1);
            Twins.leaves(due, Ways::full, "end", n);
        }
        due.is("end(1) of nothing", new OrganDrums().end(1), -1);
        due.says(7, "The TAPE has its first n bytes alone: n");
        due.is("end(0) of nothing", new OrganDrums().end(0), 0);
        due.is("end(5)", Ways.busy().end(5), 5);
        due.is("end(400)", Ways.full().end(400), 400);
        OrganDrums x = new OrganDrums();
        Calls.tape(x, "sounds 77");
        due.is("end(8)", x.end(8), 8);
        due.is("count(6)", x.count(6), 8);
        due.is("end(9), the ninth is gone", x.end(9), -1);
        due.is("law()", x.law(), 0);
        x.drum(1, 0, 0, 1);
        x.force(0);
        due.is("loud(0)", x.loud(0), 7);
        Calls.tape(x, "drops");
        due.is("end(0)", x.end(0), 0);
        due.is("law() of nothing", x.law(), -6);
    }

    private void row() {
        due.says(8, "A ROW, the TAPE is empty then: how many DRUMS came");
        OrganDrums x = new OrganDrums();
        Calls.tape(x, Ways.four(2, 0, 1, 3).repeat(6));
        due.is("row()", x.row(), 6);
        due.is("count(6)", x.count(6), 0);
        due.is("sleeves()", x.sleeves(), 0);
        due.is("status()", x.status(), 0);
        due.says(8, "one for which there is no room is a SLEEVE: nothing");
        OrganDrums y = new OrganDrums();
        Calls.tape(y, Ways.four(2, 0, 1, 3).repeat(7));
        due.is("row()", y.row(), 6);
        due.is("sleeves()", y.sleeves(), 1);
        OrganDrums z = new OrganDrums();
        Calls.tape(z, Ways.four(1, 0, 0, 0).repeat(100));
        due.is("row()", z.row(), 6);
        due.is("sleeves()", z.sleeves(), 94);
        due.is("count(6)", z.count(6), 0);
        due.is("of(5, 0)", z.of(5, 0), 1);
        Calls.tape(z, Ways.four(1, 0, 0, 0));
        due.is("row(), no room at all", z.row(), 0);
        due.is("sleeves()", z.sleeves(), 1);
        due.is("status(), no room is not what row() is refused by", z.status(), 0);
        due.is("count(10)", z.count(10), 0);
        due.says(8, "-6 the TAPE is empty");
        Twins.refused(due, Ways::empty, -6, "row");
        Twins.refused(due, () -> Ways.busyWith(""), -6, "row");
        Twins.refused(due, () -> Ways.fullWith(""), -6, "row");
        due.says(8, "-6 a TEXT, a ROW that can't be");
        OrganDrums w = Ways.busy();
        due.is("row()", w.row(), 1);
        due.is("row()", w.row(), -6);
    }

    private void rowOf(String bytes, int drums, int sleeves) {
        OrganDrums x = new OrganDrums();
        Calls.tape(x, bytes);
        StringBuilder told = new StringBuilder();
        for (char c : bytes.toCharArray()) {
            told.append(told.length() == 0 ? "" : " ").append((int) c);
        }
        due.is("row() of " + told, x.row(), drums);
        due.is("sleeves() of " + told, x.sleeves(), sleeves);
        due.is("count(0) of " + told, x.count(0), drums);
        due.is("count(6) of " + told, x.count(6), 0);
    }

    private void rowOfOneDrum() {
        due.says(8, "A ROW: the TAPE's bytes by fours: LONG, a KIND, the BEAT it is AT, PINS at BEATS 0 .. 7 as bits"
                + " (none beyond): a DRUM");
        int[][] fine = {{1, 0, 0, 0}, {1, 3, 0, 1}, {12, 0, 11, 255}, {12, 0, 0, 128}, {8, 0, 7, 255}, {7, 0, 6, 127},
            {3, 0, 2, 7}};
        for (int[] a : fine) {
            rowOf(Ways.four(a[0], a[1], a[2], a[3]), 1, 0);
        }
        due.says(8, "one that can't be, one within which the TAPE ends");
        int[][] not = {{0, 0, 0, 0}, {13, 0, 0, 0}, {255, 0, 0, 0}, {128, 0, 0, 0}, {3, 4, 0, 0}, {3, 255, 0, 0},
            {3, 0, 3, 0}, {3, 0, 255, 0}, {12, 0, 12, 0}, {1, 0, 1, 0}, {1, 0, 0, 2}, {3, 0, 0, 8}, {7, 0, 0, 128},
            {3, 0, 0, 255}};
        for (int[] a : not) {
            rowOf(Ways.four(a[0], a[1], a[2], a[3]), 0, 1);
            rowOf(Ways.four(a[0], a[1], a[2], a[3]) + Ways.four(2, 0, 0, 1), 1, 1);
        }
        String one = Ways.four(2, 0, 0, 1);
        for (int n = 1; n < 4; n++) {
            rowOf(one.substring(0, n), 0, 1);
            rowOf(one + one.substring(0, n), 1, 1);
            rowOf(Ways.four(0, 0, 0, 0) + one + one.substring(0, n), 1, 2);
        }
        rowOf(one.repeat(6) + one.substring(0, 3), 6, 1);
        rowOf("x".repeat(400), 0, 100);
        rowOf("x".repeat(397), 0, 100);
        rowOf("x".repeat(396), 0, 99);
    }

    private void sleeves() {
        due.says(9, "How many SLEEVES the latest row() had that was not REFUSED (0 ahead of any)");
        OrganDrums x = new OrganDrums();
        due.is("sleeves()", x.sleeves(), 0);
        due.is("row()", x.row(), -6);
        due.is("sleeves()", x.sleeves(), 0);
        Calls.tape(x, "x");
        x.row();
        due.is("sleeves()", x.sleeves(), 1);
        due.is("row()", x.row(), -6);
        due.is("sleeves()", x.sleeves(), 1);
        Calls.tape(x, "x".repeat(9));
        x.row();
        due.is("sleeves()", x.sleeves(), 3);
        x.image(0);
        Calls.tape(x, Ways.four(1, 0, 0, 0));
        x.row();
        due.is("sleeves()", x.sleeves(), 0);
        Calls.tape(x, "x");
        x.row();
        x.back(0);
        due.is("sleeves() behind back()", x.sleeves(), 1);
        Twins.leaves(due, Ways::busy, "sleeves");
    }

    private void law() {
        due.says(10, "The TAPE, which is empty then, becomes a LAW: its number");
        due.says(10, "LAWS, 6 at most");
        OrganDrums x = new OrganDrums();
        x.drum(1, 0, 0, 1);
        for (int i = 0; i < 6; i++) {
            due.is("law()", Due.law(x, "sounds " + (9 - i)), i);
            due.is("count(4)", x.count(4), i + 1);
            due.is("count(6)", x.count(6), 0);
            due.is("a law is not in force by itself", x.count(12), -1);
        }
        due.is("law()", Due.law(x, "sounds 2"), -5);
        due.is("count(4)", x.count(4), 6);
        for (int i = 0; i < 6; i++) {
            x.force(i);
            due.is("loud(0) by law " + i, x.loud(0), 9 - i);
        }
    }

    private void lawsWithoutRoom() {
        due.says(10, "-5 (ahead of reading it; the TAPE is empty then, too)");
        for (String text : new String[] {"drops", "nonsense", "   ", ""}) {
            Twins.refused(due, () -> Ways.fullWith(text), -5, "law");
            OrganDrums x = Ways.fullWith("?");
            x.orders();
            Calls.tape(x, text);
            due.is("law()", x.law(), -5);
            due.is("count(6)", x.count(6), 0);
            due.is("fault() is that of the orders", x.fault(), 0);
        }
        due.says(10, "The first of these in that order");
        due.is("law() of nonsense without room", Ways.fullWith("nonsense").law(), -5);
        due.is("row() behind it", rowBehind(Ways.fullWith("drops")), -6);
    }

    private static int rowBehind(OrganDrums x) {
        x.law();
        return x.row();
    }

    private void blanksAlone() {
        due.says(10, "-6 (blanks alone: FAULT at the end)");
        for (int n : new int[] {0, 1, 2, 399, 400}) {
            faulty(true, " ".repeat(n), n);
        }
        Twins.refused(due, () -> Ways.busyWith("   "), -6, "law");
        Twins.refused(due, () -> Ways.busyWith(""), -6, "law");
        Twins.refused(due, () -> Ways.busyWith("bars 3"), -6, "law");
        Twins.refused(due, () -> Ways.busyWith("x".repeat(400)), -6, "law");
        due.says(11, "-6 (as for law())");
        for (int n : new int[] {0, 1, 2, 399, 400}) {
            faulty(false, " ".repeat(n), n);
        }
        Twins.refused(due, () -> Ways.busyWith("   "), -6, "orders");
        Twins.refused(due, () -> Ways.busyWith(""), -6, "orders");
        Twins.refused(due, () -> Ways.busyWith("pass 3"), -6, "orders");
        Twins.refused(due, () -> Ways.fullWith("pass; pass; pass pass"), -6, "orders");
        OrganDrums x = Ways.busyWith("stop 0; stop 0 stop 0");
        due.is("orders()", x.orders(), -6);
        due.is("none was run", x.of(0, 4), 0);
        due.is("fault()", x.fault(), 15);
        due.is("stopped()", x.stopped(), -1);
    }

    /** Reads a text as a law, or as orders: its fault, or FINE. */
    private void faulty(boolean law, String text, int place) {
        OrganDrums x = new OrganDrums();
        Calls.tape(x, text);
        int answer = law ? x.law() : x.orders();
        due.is("fault() of " + text, x.fault(), place);
        due.is("count(11) behind " + text, x.count(11), place == FINE ? 0 : 1);
        due.is("count(6) behind " + text, x.count(6), 0);
        if (place != FINE) {
            due.is("reading " + text, answer, -6);
            due.is("status() behind " + text, x.status(), -6);
            due.is("count(4) behind " + text, x.count(4), 0);
            due.is("stopped() behind " + text, x.stopped(), -1);
        } else if (law) {
            due.is("law() of " + text, answer, 0);
        } else {
            due.is("orders() of " + text + " are refused", answer == -6 ? 1 : 0, 0);
        }
    }

    private void tokens() {
        due.says(10, "TOKENS: longest rows of letters a .. z, of digits, single other bytes, any blanks (32) between");
        faulty(true, "drops", FINE);
        faulty(true, "dropsif1=1", 0);
        faulty(true, "drops if1=1", FINE);
        faulty(true, "drops if1=1or1=1and1=1", FINE);
        faulty(true, "drops ifnot1=1", 6);
        faulty(true, "sounds5if5=5", FINE);
        faulty(true, "dro ps", 0);
        faulty(true, "sounds 1 0", 9);
        faulty(true, "sounds 10", FINE);
        faulty(true, "sounds [ 1 + 2 ] * 3 if ( 1 < 2 ) ; drops", FINE);
        faulty(true, "sounds[1+2]*3if(1<2);drops", FINE);
        faulty(true, "sounds  1   +    2", FINE);
        faulty(true, "drops bars", 6);
        faulty(true, "dropsbars", 0);
        for (int other : new int[] {0, 1, 9, 10, 13, 31, 33, 'a' - 1, 'z' + 1, 'A', 'Z', '/', ':', 127, 128, 160, 255}) {
            faulty(true, "drops" + (char) other, 5);
            faulty(true, "drops " + (char) other + "if 1=1", 6);
            faulty(true, (char) other + "drops", 0);
            faulty(true, "sounds 5" + (char) other, other == '/' ? 9 : 8);
        }
        faulty(true, "sounds 5/:", 9);
        for (char letter : new char[] {'a', 'b', 'y', 'z'}) {
            faulty(true, "drops" + letter, 0);
            faulty(true, letter + "drops", 0);
            faulty(true, "drops" + letter + "if 1=1", 0);
        }
        for (char digit : new char[] {'0', '1', '8', '9'}) {
            faulty(true, "sounds 5" + digit, FINE);
            faulty(true, "drops" + digit, 5);
        }
        faulty(true, "drops if 1==1", 11);
        faulty(true, "drops if 1<>1", 11);
        faulty(true, "DROPS", 0);
        faulty(true, "drops" + (char) 32 + (char) 32, FINE);
        due.says(10, "TEXTS are on a TAPE of at most 400 bytes");
        faulty(true, " ".repeat(395) + "drops", FINE);
        faulty(true, "drops" + " ".repeat(395), FINE);
        faulty(true, " ".repeat(394) + "drops;", 400);
        faulty(true, " ".repeat(393) + "drops;x", 399);
        faulty(true, "x".repeat(400), 0);
        faulty(true, " ".repeat(399) + "x", 399);
        faulty(true, "sounds " + "0".repeat(392) + "9", FINE);
        faulty(true, "sounds " + "9".repeat(393), 7);
        faulty(true, "drops if" + " not".repeat(97) + " 1=1", FINE);
        faulty(true, "drops if" + " not".repeat(98), 400);
    }

    private void clauses() {
        due.says(10, "CLAUSE {\";\" CLAUSE}, 12 at most (FAULT at the 13th's first TOKEN)");
        faulty(true, "drops", FINE);
        faulty(true, "drops" + ";drops".repeat(11), FINE);
        faulty(true, "drops" + ";drops".repeat(12), 72);
        faulty(true, "drops" + ";drops".repeat(11) + "; drops", 73);
        faulty(true, "drops" + ";drops".repeat(11) + ";   ", 75);
        faulty(true, "drops" + ";drops".repeat(11) + ";", 72);
        faulty(true, "drops" + ";drops".repeat(11) + ";;", 72);
        faulty(true, "drops" + ";drops".repeat(11) + "; ?", 73);
        faulty(true, "drops" + ";drops".repeat(11) + " ;", 73);
        faulty(true, "drops" + ";drops".repeat(11) + " drops", 72);
        faulty(true, "drops;", 6);
        faulty(true, "drops;;drops", 6);
        faulty(true, ";drops", 0);
        faulty(false, "pass" + ";pass".repeat(11), FINE);
        faulty(false, "pass" + ";pass".repeat(12), 60);
        faulty(false, "pass" + ";pass".repeat(11) + ";", 60);
        faulty(false, "pass" + ";pass".repeat(11) + ";  x", 62);
        faulty(false, "pass;", 5);
        OrganDrums x = new OrganDrums();
        due.is("orders() of twelve", Due.orders(x, "pass" + ";pass".repeat(11)), 12);
        due.is("count(13)", x.count(13), 12);
        due.is("orders() of thirteen", Due.orders(x, "pass" + ";pass".repeat(12)), -6);
        due.is("count(13)", x.count(13), 12);
    }

    private void parts() {
        due.says(10, "50 PARTS that are NUMBERS and words (FAULT at the 51st)");
        faulty(true, "sounds 1" + "+1".repeat(49), FINE);
        faulty(true, "sounds 1" + "+1".repeat(50), 107);
        faulty(true, "sounds 1" + "+1".repeat(50) + "+1+1", 107);
        faulty(true, "sounds 1" + "+1".repeat(49) + "+", 107);
        faulty(true, "sounds 1" + "+1".repeat(49) + "+?", 107);
        faulty(true, "sounds 1" + "+1".repeat(49) + "+[1]", 108);
        faulty(true, "sounds beat" + "+beat".repeat(49), FINE);
        faulty(true, "sounds beat" + "+beat".repeat(50), 257);
        faulty(true, "sounds 1" + "+1".repeat(48) + "+hour", FINE);
        faulty(true, "sounds [1]" + "+[1]".repeat(49), FINE);
        faulty(true, "sounds [1]" + "+[1]".repeat(50), 208);
        // All clauses of a text together; brackets, signs and the words of the language itself are none.
        faulty(true, "sounds 1" + "+1".repeat(24) + " if 1" + "+1".repeat(23) + "=1", FINE);
        faulty(true, "sounds 1" + "+1".repeat(24) + " if 1" + "+1".repeat(24) + "=1", 7 + 49 + 4 + 50);
        faulty(true, "drops if 1=1" + ";drops if 1=1".repeat(11), FINE);
        faulty(true, "sounds 1" + "+1".repeat(48) + ";sounds 1", FINE);
        faulty(true, "sounds 1" + "+1".repeat(48) + ";sounds 1;sounds 1", 104 + 9 + 8);
        faulty(true, "sounds 1" + "+1".repeat(49) + ";drops;bars", FINE);
        due.says(11, "D, TIMES aside, NUMBERS and words count as PARTS");
        faulty(false, "stop 1" + "+1".repeat(49), FINE);
        faulty(false, "stop 1" + "+1".repeat(50), 105);
        faulty(false, "stop at 1" + "+at 1".repeat(49) + " times 20", FINE);
        faulty(false, "stop at 1" + "+at 1".repeat(50), 5 + 5 * 50);
        faulty(false, "stop pins 1" + "+pins 1".repeat(49) + " times 1", FINE);
        faulty(false, "stop pins 1" + "+pins 1".repeat(49) + "+pins 1", 5 + 7 * 50);
        faulty(false, "stop done" + "+done".repeat(49), FINE);
        faulty(false, "stop done" + "+done".repeat(49) + "+1", 255);
        faulty(false, "pin 1" + "+1".repeat(24) + " at 1" + "+1".repeat(24) + " times 9", FINE);
        faulty(false, "pin 1" + "+1".repeat(24) + " at 1" + "+1".repeat(25), 4 + 49 + 4 + 50);
    }

    private void brackets() {
        due.says(10, "8 brackets of both kinds within one another (FAULT at the 9th) at most");
        for (int round = 0; round <= 9; round++) {
            int square = 8 - round;
            if (square >= 0) {
                faulty(true, "bars if " + "(".repeat(round) + "[".repeat(square) + "1" + "]".repeat(square) + "=1"
                        + ")".repeat(round), FINE);
                faulty(true, "bars if " + "(".repeat(round) + "1=" + "[".repeat(square) + "1" + "]".repeat(square)
                        + ")".repeat(round), FINE);
            }
            faulty(true, "bars if " + "(".repeat(round) + "[".repeat(9 - round) + "1" + "]".repeat(9 - round) + "=1"
                    + ")".repeat(round), 16);
        }
        faulty(true, "sounds " + "[".repeat(8) + "1" + "]".repeat(8), FINE);
        faulty(true, "sounds " + "[".repeat(9) + "1" + "]".repeat(9), 15);
        faulty(true, "sounds " + "[".repeat(9), 15);
        faulty(true, "sounds " + "[".repeat(8), 15);
        faulty(true, "sounds " + "[".repeat(393), 15);
        faulty(true, "bars if " + "(".repeat(392), 16);
        faulty(true, "bars if " + "not(".repeat(8) + "1=1" + ")".repeat(8), FINE);
        faulty(true, "bars if " + "not(".repeat(9) + "1=1" + ")".repeat(9), 8 + 8 * 4 + 3);
        // One behind the other they may be as many as there is room for.
        faulty(true, "sounds [1]" + "+[1]".repeat(40), FINE);
        faulty(true, "bars if (1=1)" + "or(1=1)".repeat(24), FINE);
        faulty(true, "sounds " + "[".repeat(8) + "1" + "]".repeat(8) + "+" + "[".repeat(8) + "1" + "]".repeat(8), FINE);
        faulty(true, "bars if " + "(".repeat(8) + "1=1" + ")".repeat(8) + "and" + "(".repeat(8) + "1=1" + ")".repeat(8),
                FINE);
        faulty(true, "sounds [[[[[[[[1]+[1]]]]]]]]", FINE);
        faulty(true, "sounds [[[[[[[[1+[1]]]]]]]]]", 17);
        faulty(true, "sounds [[[[[[[[1]+1]]]]]]]", FINE);
        faulty(false, "stop " + "[".repeat(8) + "1" + "]".repeat(8), FINE);
        faulty(false, "stop " + "[".repeat(9) + "1" + "]".repeat(9), 13);
        String[] sums = {"pin %s at 1", "pin 0 at %s", "shift %s by 1", "shift 0 by %s", "stop %s", "pass if %s=1",
            "pass if 1=%s", "stop 0;stop %s", "stop [0]+%s", "stop 0 times 2 if %s=1", "pin 0 at [1];stop %s"};
        for (String text : sums) {
            int at = text.indexOf('%');
            faulty(false, text.replace("%s", "[".repeat(8) + "1" + "]".repeat(8)), FINE);
            faulty(false, text.replace("%s", "[".repeat(9) + "1" + "]".repeat(9)), at + 8);
        }
        faulty(false, "pass if " + "(".repeat(8) + "1=1" + ")".repeat(8), FINE);
        faulty(false, "pass if " + "(".repeat(9) + "1=1" + ")".repeat(9), 16);
    }

    private void numbers() {
        due.says(10, "PART: NUMBER (to 1,000) | \"[\" SUM \"]\" | a word, as told");
        faulty(true, "sounds 0", FINE);
        faulty(true, "sounds 1000", FINE);
        faulty(true, "sounds 1001", 7);
        faulty(true, "sounds 00001000", FINE);
        faulty(true, "sounds 00001001", 7);
        faulty(true, "sounds 9999", 7);
        faulty(true, "sounds 2147483648", 7);
        faulty(true, "sounds 4294967296", 7);
        faulty(true, "sounds 18446744073709551616", 7);
        faulty(true, "sounds 10000000000000000000000", 7);
        faulty(true, "sounds []", 8);
        faulty(true, "sounds [1", 9);
        faulty(true, "sounds [1)", 9);
        faulty(true, "sounds (1]", 7);
        faulty(true, "sounds -1", 7);
        faulty(true, "sounds [0-1]", FINE);
        faulty(true, "sounds word", 7);
        faulty(true, "sounds moods", 7);
        faulty(true, "sounds moo", 7);
        due.says(11, "TIMES: a NUMBER 1 .. 20");
        faulty(false, "pass times 0", 11);
        faulty(false, "pass times 1", FINE);
        faulty(false, "pass times 20", FINE);
        faulty(false, "pass times 21", 11);
        faulty(false, "pass times 00020", FINE);
        faulty(false, "pass times 000", 11);
        faulty(false, "pass times 1001", 11);
        faulty(false, "pass times 4294967297", 11);
        faulty(false, "pass times", 10);
        faulty(false, "pass times hour", 11);
        faulty(false, "pass times [1]", 11);
        faulty(false, "pass times 2*3", 12);
        faulty(false, "pass times 2 times 3", 13);
        due.says(11, "\"at\" D | \"pins\" D (D: a NUMBER 0 .. 5)");
        for (String word : new String[] {"at", "pins"}) {
            int place = 6 + word.length();
            faulty(false, "stop " + word + " 0", FINE);
            faulty(false, "stop " + word + " 5", FINE);
            faulty(false, "stop " + word + " 6", place);
            faulty(false, "stop " + word + " 005", FINE);
            faulty(false, "stop " + word + " 006", place);
            faulty(false, "stop " + word + " 4294967296", place);
            faulty(false, "stop " + word, place - 1);
            faulty(false, "stop " + word + " ", place);
            faulty(false, "stop " + word + " [0]", place);
            faulty(false, "stop " + word + " hour", place);
            faulty(false, "stop " + word + "+1", place - 1);
        }
    }

    private void sums() {
        due.says(10, "SUM: TERM {(\"+\" | \"-\") TERM}");
        faulty(true, "sounds 1+2-3", FINE);
        faulty(true, "sounds 1+", 9);
        faulty(true, "sounds 1++2", 9);
        faulty(true, "sounds 1-+2", 9);
        faulty(true, "sounds +2", 7);
        due.says(10, "TERM: PART {(\"*\" | \"/\" | \"%\") PART}");
        faulty(true, "sounds 1*2/3%4", FINE);
        faulty(true, "sounds 1*", 9);
        faulty(true, "sounds 1/", 9);
        faulty(true, "sounds 1%", 9);
        faulty(true, "sounds 1*/2", 9);
        faulty(true, "sounds *2", 7);
        faulty(true, "sounds 1+*2", 9);
        faulty(true, "sounds 1**2", 9);
        faulty(true, "sounds 1 & 2", 9);
        faulty(true, "sounds 1^2", 8);
    }

    private void tests() {
        due.says(10, "TEST: BOTH {\"or\" BOTH}");
        faulty(true, "bars if 1=1 or 1=1 or 1=1", FINE);
        faulty(true, "bars if 1=1 or", 14);
        faulty(true, "bars if or 1=1", 8);
        faulty(true, "bars if 1=1 or or 1=1", 15);
        faulty(true, "bars if 1=1 or and 1=1", 15);
        due.says(10, "BOTH: PLAIN {\"and\" PLAIN}");
        faulty(true, "bars if 1=1 and 1=1 and 1=1", FINE);
        faulty(true, "bars if 1=1 and", 15);
        faulty(true, "bars if and 1=1", 8);
        faulty(true, "bars if 1=1 and or 1=1", 16);
        faulty(true, "bars if 1=1 1=1", 12);
        due.says(10, "PLAIN: \"not\" PLAIN | \"(\" TEST \")\" | SUM (\"<\" | \">\" | \"=\") SUM");
        faulty(true, "bars if not 1=1", FINE);
        faulty(true, "bars if not not 1=1", FINE);
        faulty(true, "bars if not (1=1)", FINE);
        faulty(true, "bars if not", 11);
        faulty(true, "bars if 1=1 not", 12);
        faulty(true, "bars if 1=1 and not 1=1 or not 1=1", FINE);
        faulty(true, "bars if 1=not 1", 10);
        faulty(true, "bars if ()", 9);
        faulty(true, "bars if (1)", 10);
        faulty(true, "bars if (1=1", 12);
        faulty(true, "bars if (1=1]", 12);
        faulty(true, "bars if [1=1]", 10);
        faulty(true, "bars if (1=1)=1", 13);
        faulty(true, "bars if (1)+1=2", 10);
        faulty(true, "bars if [1]+1=2", FINE);
        faulty(true, "bars if 1", 9);
        faulty(true, "bars if 1+1", 11);
        faulty(true, "bars if 1<", 10);
        faulty(true, "bars if 1>", 10);
        faulty(true, "bars if 1=", 10);
        faulty(true, "bars if <1", 8);
        faulty(true, "bars if 1<2<3", 11);
        faulty(true, "bars if 1!2", 9);
        faulty(true, "bars if", 7);
        faulty(true, "bars if ", 8);
    }

    private void clausesOfLaws() {
        due.says(10, "CLAUSE: (\"sounds\" SUM | \"drops\" | \"bars\") [\"if\" TEST]");
        faulty(true, "sounds", 6);
        faulty(true, "sounds if 1=1", 7);
        faulty(true, "sounds 1 if 1=1", FINE);
        faulty(true, "sounds 1 if 1=1 if 1=1", 16);
        faulty(true, "drops 1", 6);
        faulty(true, "bars 1", 5);
        faulty(true, "bars if 1=1", FINE);
        faulty(true, "drops if 1=1", FINE);
        faulty(true, "drops times 2", 6);
        faulty(true, "if 1=1", 0);
        faulty(true, "1", 0);
        faulty(true, "drop", 0);
        faulty(true, "bar", 0);
        faulty(true, "barss", 0);
        for (String order : new String[] {"pin 0 at 0", "shift 0 by 1", "stop 0", "pass"}) {
            faulty(true, order, 0);
        }
        due.says(10, "Words: \"drum\" | \"long\" | \"kind\" | \"beat\" | \"pins\" | \"hour\" | \"mood\"");
        for (String word : new String[] {"drum", "long", "kind", "beat", "pins", "hour", "mood"}) {
            faulty(true, "sounds " + word, FINE);
            faulty(true, word, 0);
            faulty(true, "sounds " + word + " 0", 8 + word.length());
        }
        for (String word : new String[] {"done", "latest", "loud", "all", "at", "at 0", "if", "or", "not", "sounds"}) {
            faulty(true, "sounds " + word, 7);
        }
    }

    private void clausesOfOrders() {
        due.says(11, "CLAUSE: (\"pin\" SUM \"at\" SUM | \"shift\" SUM \"by\" SUM | \"stop\" SUM | \"pass\")"
                + " [\"times\" TIMES] [\"if\" TEST]");
        faulty(false, "pin", 3);
        faulty(false, "pin at 1", 8);
        faulty(false, "pin at 1 at 1", FINE);
        faulty(false, "pin 0 at at 1", FINE);
        faulty(false, "pin 0", 5);
        faulty(false, "pin 0 by 1", 6);
        faulty(false, "pin 0 1", 6);
        faulty(false, "pin 0 at", 8);
        faulty(false, "pin 0 at 1 at 2", 11);
        faulty(false, "shift", 5);
        faulty(false, "shift 0", 7);
        faulty(false, "shift 0 at 1", 8);
        faulty(false, "shift 0 by", 10);
        faulty(false, "shift 0 by 1", FINE);
        faulty(false, "shift 0 by 1 by 1", 13);
        faulty(false, "stop", 4);
        faulty(false, "stop 0", FINE);
        faulty(false, "stop 0 at 1", 7);
        faulty(false, "stop 0 by 1", 7);
        faulty(false, "pass", FINE);
        faulty(false, "pass 0", 5);
        faulty(false, "pass at 0", 5);
        faulty(false, "pass times 2 if 1=1", FINE);
        faulty(false, "pass if 1=1 times 2", 12);
        faulty(false, "pass if 1=1 if 1=1", 12);
        faulty(false, "pass times if 1=1", 11);
        faulty(false, "pin 0 times 2 at 1", 6);
        faulty(false, "pin 0 if 1=1 at 1", 6);
        for (String law : new String[] {"sounds 1", "drops", "bars"}) {
            faulty(false, law, 0);
        }
    }

    private void wordsOfOrders() {
        due.says(11, "Words: \"hour\" | \"done\" | \"latest\" | \"loud\" | \"all\" | \"at\" D | \"pins\" D");
        for (String word : new String[] {"hour", "done", "latest", "loud", "all"}) {
            faulty(false, "stop " + word, FINE);
            faulty(false, "stop " + word + " 0", 6 + word.length());
            faulty(false, word, 0);
        }
        for (String word : new String[] {"drum", "long", "kind", "beat", "mood", "by", "times", "if", "pass", "late"}) {
            faulty(false, "stop " + word, 5);
        }
    }

    /** A word with one letter changed, too many or too few is none. */
    private void spelling() {
        due.says(12, "FAULT: the first TOKEN that can't go on there");
        String[][] laws = {{"", "sounds", " 1"}, {"", "drops", ""}, {"", "bars", ""}, {"bars ", "if", " 1=1"},
            {"bars if ", "not", " 1=1"}, {"bars if 1=1 ", "or", " 1=1"}, {"bars if 1=1 ", "and", " 1=1"},
            {"sounds ", "drum", ""}, {"sounds ", "long", ""}, {"sounds ", "kind", ""}, {"sounds ", "beat", ""},
            {"sounds ", "pins", ""}, {"sounds ", "hour", ""}, {"sounds ", "mood", ""}};
        String[][] orders = {{"", "pin", " 0 at 1"}, {"", "shift", " 0 by 1"}, {"", "stop", " 0"}, {"", "pass", ""},
            {"pin 0 ", "at", " 1"}, {"shift 0 ", "by", " 1"}, {"pass ", "times", " 2"}, {"pass ", "if", " 1=1"},
            {"stop ", "hour", ""}, {"stop ", "done", ""}, {"stop ", "latest", ""}, {"stop ", "loud", ""},
            {"stop ", "all", ""}, {"stop ", "at", " 0"}, {"stop ", "pins", " 0"}};
        for (String[] text : laws) {
            misspelt(true, text[0], text[1], text[2]);
        }
        for (String[] text : orders) {
            misspelt(false, text[0], text[1], text[2]);
        }
    }

    private void misspelt(boolean law, String ahead, String word, String behind) {
        faulty(law, ahead + word + behind, FINE);
        for (int i = 0; i < word.length(); i++) {
            String other = word.substring(0, i) + "q" + word.substring(i + 1);
            faulty(law, ahead + other + behind, ahead.length());
        }
        faulty(law, ahead + word + "q" + behind, ahead.length());
        faulty(law, ahead + "q" + word + behind, ahead.length());
        faulty(law, ahead + word.substring(1) + behind, ahead.length());
        faulty(law, ahead + word.substring(0, word.length() - 1) + behind, ahead.length());
        faulty(law, ahead + word.toUpperCase() + behind, ahead.length());
    }

    private void ends() {
        due.says(12, "FAULT: the first TOKEN that can't go on there (the end's: the TEXT's length)");
        String[] cutOff = {"sounds", "sounds ", "sounds [", "sounds [1", "sounds [1+", "sounds [1+beat", "sounds [1+2]*",
            "sounds 1 if", "sounds 1 if ", "sounds 1 if not", "sounds 1 if (", "sounds 1 if (1", "sounds 1 if (1<",
            "sounds 1 if (1<2", "sounds 1 if (1<2 and", "sounds 1 if 1=1 or", "sounds 1;", "sounds 1 ;  ", "bars if  "};
        for (String text : cutOff) {
            faulty(true, text, text.length());
        }
        String[] whole = {"sounds [1+2]", "sounds 1 if 1=1", "sounds 1 if (1<2)", "sounds 1 ", "bars   ", "bars;bars  "};
        for (String text : whole) {
            faulty(true, text, FINE);
        }
        String[] orders = {"pin", "pin 0", "pin 0 at", "shift", "shift 0", "shift 0 by", "stop", "stop ", "stop at",
            "stop pins ", "pass times", "pass times 2 if", "pass;", "pass if 1", "pass if not "};
        for (String text : orders) {
            faulty(false, text, text.length());
        }
        // A word or a number that is cut off is a token of its own.
        faulty(true, "sound", 0);
        faulty(true, "sounds 1 i", 9);
        faulty(true, "sounds 1 if no", 12);
        faulty(true, "sounds 1 if 1=1 o", 16);
        faulty(true, "sounds bea", 7);
        faulty(false, "pass time", 5);
        faulty(false, "pin 0 a", 6);
        // The first of several.
        faulty(true, "bars     ?", 9);
        faulty(true, "? ?", 0);
        faulty(true, "  ?", 2);
        faulty(true, "bars ; bars bars; ?", 12);
        faulty(false, "pass ; pass pass; ?", 12);
        faulty(true, "sounds 1001 + 1001", 7);
        faulty(false, "pass times 21 times 21", 11);
    }

    private void fault() {
        due.says(12, "FAULT of the latest law(), orders() that read a TEXT: its place");
        OrganDrums x = new OrganDrums();
        due.is("fault()", x.fault(), -1);
        Due.law(x, "bars 1");
        due.is("fault() of a law", x.fault(), 5);
        Due.orders(x, "pass 1 1");
        due.is("fault() of orders", x.fault(), 5);
        Due.orders(x, "stop ?");
        due.is("fault() of orders", x.fault(), 5);
        Due.law(x, "?");
        due.is("fault() of a law", x.fault(), 0);
        due.says(12, "NONE without");
        Due.orders(x, "pass");
        due.is("fault() of orders that were read", x.fault(), -1);
        Due.law(x, "?");
        Due.orders(x, "stop 0");
        due.is("fault() of orders that could not be", x.fault(), -1);
        Due.orders(x, "?");
        Due.law(x, "bars");
        due.is("fault() of a law that was read", x.fault(), -1);
        Due.law(x, "?");
        x.image(0);
        x.back(0);
        Calls.tape(x, "x");
        x.row();
        x.pass();
        due.is("fault() behind others", x.fault(), 0);
        Twins.leaves(due, Ways::busy, "fault");
        Twins.leaves(due, Ways::full, "fault");
    }
}
