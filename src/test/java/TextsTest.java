/** Promises 6 to 13: the tape, rows of drums, laws and orders as texts. */
public final class TextsTest {
    private static final Due DUE = new Due();
    private static final int FINE = -1;

    public static void main(String[] args) {
        feedAndEnd();
        row();
        rowWithoutRoom();
        law();
        faultsOfLaws();
        faultsOfOrders();
        limits();
        orders();
        ordersAskWords();
        ordersThatCannotBe();
        ordersAreUndoneWhole();
        manyTexts();
        faultAndStopped();
        DUE.end();
    }

    private static void feedAndEnd() {
        OrganDrums x = new OrganDrums();
        for (int i = 1; i <= 20; i++) {
            DUE.is(6, "feed(0, 0, 0, 0, 0)", x.feed(0, 0, 0, 0, 0), 20 * i);
        }
        DUE.is(6, "feed(0, 0, 0, 0, 0)", x.feed(0, 0, 0, 0, 0), -1);
        DUE.is(6, "count(6)", x.count(6), 400);
        DUE.is(7, "end(401)", x.end(401), -1);
        DUE.is(7, "end(400)", x.end(400), 400);
        DUE.is(7, "end(381)", x.end(381), 381);
        DUE.is(6, "feed(0, 0, 0, 0, 0)", x.feed(0, 0, 0, 0, 0), -1);
        DUE.is(7, "end(382)", x.end(382), -1);
        DUE.is(7, "end(-1)", x.end(-1), -1);
        DUE.is(7, "end(380)", x.end(380), 380);
        DUE.is(6, "feed(0, 0, 0, 0, 0)", x.feed(0, 0, 0, 0, 0), 400);
        DUE.is(7, "end(0)", x.end(0), 0);
        DUE.is(7, "end(0)", x.end(0), 0);
        DUE.is(7, "count(6)", x.count(6), 0);
        DUE.is(7, "these are never refused", x.status(), 0);
        DUE.is(7, "count(7)", x.count(7), 0);
        // "drops" is 100, 114, 111, 112, 115: the highest byte of a number is the first.
        DUE.is(6, "feed", x.feed(100 << 24 | 114 << 16 | 111 << 8 | 112, 115 << 24, -1, 0, 0), 20);
        DUE.is(7, "end(5)", x.end(5), 5);
        DUE.is(6, "law()", x.law(), 0);
        DUE.is(6, "feed(-1, -1, -1, -1, -1)", x.feed(-1, -1, -1, -1, -1), 20);
        DUE.is(6, "law()", x.law(), -6);
        DUE.is(6, "fault()", x.fault(), 0);
    }

    private static String four(int length, int kind, int at, int pins) {
        return "" + (char) length + (char) kind + (char) at + (char) pins;
    }

    private static void row() {
        OrganDrums x = new OrganDrums();
        DUE.is(8, "row()", x.row(), -6);
        DUE.is(8, "status()", x.status(), -6);
        DUE.is(9, "sleeves()", x.sleeves(), 0);
        Calls.tape(x, four(12, 3, 11, 255) + four(0, 0, 0, 0) + four(13, 0, 0, 0) + four(4, 4, 0, 0) + four(4, 0, 4, 0)
                + four(4, 0, 0, 16) + four(4, 1, 2, 15) + four(200, 0, 0, 0) + four(5, 1, 2, 3).substring(0, 3));
        DUE.is(8, "row()", x.row(), 2);
        DUE.is(8, "status()", x.status(), 0);
        DUE.is(9, "sleeves()", x.sleeves(), 7);
        DUE.is(8, "the tape is empty then", x.count(6), 0);
        int[] first = {12, 3, 11, 255, 0, 0};
        int[] second = {4, 1, 2, 15, 0, 1};
        for (int i = 0; i < 6; i++) {
            DUE.is(8, "of(0, " + i + ")", x.of(0, i), first[i]);
            DUE.is(8, "of(1, " + i + ")", x.of(1, i), second[i]);
        }
        DUE.is(8, "row()", x.row(), -6);
        DUE.is(9, "a refused row() leaves sleeves()", x.sleeves(), 7);
        Calls.tape(x, four(1, 0, 0, 1));
        DUE.is(8, "row()", x.row(), 1);
        DUE.is(9, "sleeves()", x.sleeves(), 0);
        Calls.tape(x, "x");
        DUE.is(8, "row()", x.row(), 0);
        DUE.is(9, "sleeves()", x.sleeves(), 1);
        DUE.is(8, "count(11)", x.count(11), 2);
    }

    private static void rowWithoutRoom() {
        OrganDrums x = new OrganDrums();
        x.drum(1, 0, 0, 0);
        x.stop(0);
        Calls.tape(x, four(2, 0, 0, 1).repeat(100));
        DUE.is(8, "row()", x.row(), 5);
        DUE.is(9, "sleeves()", x.sleeves(), 95);
        DUE.is(8, "count(0)", x.count(0), 6);
        DUE.is(8, "nothing ahead of it can be undone", x.count(5), 0);
    }

    private static void law() {
        OrganDrums x = new OrganDrums();
        for (int i = 0; i < 6; i++) {
            DUE.is(10, "law()", Due.law(x, "sounds " + i), i);
        }
        DUE.is(10, "the tape is empty then", x.count(6), 0);
        Calls.tape(x, "nonsense");
        DUE.is(10, "law()", x.law(), -5);
        DUE.is(10, "the tape is empty then, too", x.count(6), 0);
        DUE.is(10, "it was not read", x.fault(), -1);
        DUE.is(10, "law() of nothing", x.law(), -5);
        DUE.is(10, "count(4)", x.count(4), 6);
        DUE.is(10, "count(10)", x.count(10), 2);
        DUE.is(10, "count(11)", x.count(11), 0);
        x.drum(1, 0, 0, 1);
        for (int i = 0; i < 6; i++) {
            x.force(i);
            DUE.is(10, "each law stands for itself", x.loud(0), i);
        }
        OrganDrums y = new OrganDrums();
        DUE.is(10, "law() of blanks", Due.law(y, "     "), -6);
        DUE.is(10, "fault()", y.fault(), 5);
        DUE.is(10, "law() of nothing", y.law(), -6);
        DUE.is(10, "fault()", y.fault(), 0);
        DUE.is(10, "count(4)", y.count(4), 0);
        DUE.is(10, "a number may have noughts ahead", Due.law(y, "sounds 0007"), 0);
        y.drum(1, 0, 0, 1);
        y.force(0);
        DUE.is(10, "loud(0)", y.loud(0), 7);
    }

    private static void fault(boolean law, String text, int place) {
        OrganDrums x = new OrganDrums();
        Calls.tape(x, text);
        int answer = law ? x.law() : x.orders();
        int promise = law ? 10 : 11;
        if (place != FINE || law) {
            DUE.is(promise, "reading " + text, answer, place == FINE ? 0 : -6);
        } else {
            DUE.is(promise, "reading " + text, answer == -6 ? 1 : 0, 0);
        }
        DUE.is(12, "fault() of " + text, x.fault(), place);
    }

    private static void faultsOfLaws() {
        Object[][] texts = {{"sounds", 6}, {"sounds ", 7}, {"sounds 5", FINE}, {"  sounds   5  ", FINE},
            {"sounds 1000", FINE}, {"sounds 1001", 7}, {"sounds 0001000", FINE}, {"sounds 99999999999999999999", 7},
            {"sounds 4294967297", 7}, {"sounds 5 5", 9}, {"sounds 5;", 9}, {"sounds 5;;", 9}, {";", 0},
            {"sounds 5 if", 11}, {"sounds 5 if 1", 13}, {"sounds 5 if 1<2<3", 15}, {"sounds 5 if 1 2", 14},
            {"drops if not not not 1=1", FINE}, {"drops if not", 12}, {"drops if (1=1", 13}, {"drops if [1=1", 11},
            {"drops if (1)=1", 11}, {"drops if [1]=1", FINE}, {"drops if (1=1)=1", 14}, {"drops if (1=1))", 14},
            {"drops 5", 6}, {"bars 5", 5}, {"bars if hour > 3 or", 19}, {"bars if hour > 3 or or", 20},
            {"bars if hour > 3 and", 20}, {"Sounds 5", 0}, {"sounds done", 7}, {"soundsx 5", 0}, {"sound 5", 0},
            {"sounds5", FINE}, {"sounds 5if 1=1", FINE}, {"sounds 5\tif 1=1", 8}, {"sounds -1", 7}, {"sounds +1", 7},
            {"sounds 1+", 9}, {"sounds 1+*2", 9}, {"sounds [1+2", 11}, {"sounds [1+2)", 11}, {"sounds (1)", 7},
            {"sounds []", 8}, {"sounds drum+long-kind*beat/pins%hour+mood", FINE}, {"sounds 5 times 2", 9},
            {"drops if 1=1 if 1=1", 13}, {"drops if 1<=2", 11}, {"drops ; bars ; sounds 1 if 1=1;drops", FINE},
            {"drops,bars", 5}, {"pass", 0}, {"sounds at 0", 7}, {"sounds pins 0", 12}, {"if 1=1", 0},
            {"sounds sounds", 7}, {"sounds 5 and 5", 9}, {"drops if notx 1=1", 9}, {"drops if not1=1", FINE}};
        for (Object[] text : texts) {
            fault(true, (String) text[0], (Integer) text[1]);
        }
        fault(true, "dropsz", 0);
        fault(true, "dropsa", 0);
        fault(true, "drops" + (char) ('a' - 1), 5);
        fault(true, "drops" + (char) ('z' + 1), 5);
        fault(true, "sounds 5" + (char) ('0' - 1), 9);
        fault(true, "sounds 5" + (char) ('9' + 1), 8);
        fault(true, " ".repeat(395) + "drops", FINE);
        fault(true, " ".repeat(392) + "sounds 9", FINE);
        fault(true, " ".repeat(400), 400);
        fault(true, "drops" + " ".repeat(395), FINE);
        fault(true, "drops;" + " ".repeat(394), 400);
        fault(true, "sounds 5" + (char) 0, 8);
        fault(true, "sounds 5 " + (char) 233, 9);
    }

    private static void faultsOfOrders() {
        Object[][] texts = {{"pin 0", 5}, {"pin 0 at", 8}, {"pin 0 at 1", FINE}, {"pin at 1", 8},
            {"pin at 0 at at 0", FINE}, {"pin 0 by 1", 6}, {"shift 0 at 1", 8}, {"shift 0 by", 10},
            {"shift 0 by 1 times", 18}, {"pass times 21", 11}, {"pass times 0", 11}, {"pass times 1", FINE}, {"pass times 20", FINE}, {"pass times 020", FINE},
            {"pass times hour", 11}, {"pass times [1]", 11}, {"pass times 2+1", 12}, {"pass times 2 times 2", 13},
            {"pass if at 6 = 1", 11}, {"pass if at = 1", 11}, {"pass if at 0=1", FINE}, {"pass if at 5=at 05", FINE},
            {"pass if pins 6=1", 13}, {"pass if pins", 12}, {"pass if pins [0]=1", 13}, {"stop kind", 5}, {"stop", 4},
            {"stop 0 at 1", 7}, {"pass 1", 5}, {"pass if 1=1 times 2", 12}, {"stop hour+done+latest+loud+all", FINE},
            {"stop drum", 5}, {"stop beat", 5}, {"pass;pass", FINE}, {"pass;", 5}, {"pass pass", 5},
            {"", 0}, {"   ", 3}, {"drops", 0}, {"pin 0 at 1 at 2", 11}, {"shift 0 by 1 by 1", 13}, {"stop 1001", 5}, {"pass if (1=1", 12},
            {"pass times 99999999999", 11}, {"passtimes 2", 0}, {"pass times2", FINE}};
        for (Object[] text : texts) {
            fault(false, (String) text[0], (Integer) text[1]);
        }
    }

    private static void limits() {
        fault(true, "sounds 1" + "+1".repeat(49), FINE);
        fault(true, "sounds 1" + "+1".repeat(50), 7 + 2 * 50);
        fault(true, "sounds 1" + "+1".repeat(48) + "+mood", FINE);
        fault(true, "sounds 1" + "+1".repeat(49) + "+mood", 7 + 2 * 50);
        fault(true, "sounds 1" + "+1".repeat(48) + "; sounds 1", FINE);
        fault(true, "sounds 1" + "+1".repeat(48) + "; sounds 1; sounds 1", 7 + 97 + 19);
        fault(true, "sounds 1" + "+1".repeat(49) + "; drops", FINE);
        fault(true, "sounds 1" + "+1".repeat(49) + "+x", 7 + 2 * 50);
        fault(false, "pass times 20 if at 0=at 0" + "+at 0".repeat(48), FINE);
        fault(false, "pass times 20 if at 0=at 0" + "+at 0".repeat(49), 26 + 48 * 5 + 1);
        fault(true, "sounds " + "[".repeat(8) + "1" + "]".repeat(8), FINE);
        fault(true, "sounds " + "[".repeat(9) + "1" + "]".repeat(9), 15);
        fault(true, "drops if " + "(".repeat(8) + "1=1" + ")".repeat(8), FINE);
        fault(true, "drops if " + "(".repeat(9) + "1=1" + ")".repeat(9), 17);
        fault(true, "drops if " + "(".repeat(4) + "[".repeat(4) + "1" + "]".repeat(4) + "=1" + ")".repeat(4), FINE);
        fault(true, "drops if " + "(".repeat(4) + "[".repeat(5) + "1" + "]".repeat(5) + "=1" + ")".repeat(4), 17);
        fault(true, "sounds [1]" + "+[1]".repeat(30), FINE);
        fault(true, "drops;".repeat(11) + "drops", FINE);
        fault(true, "drops;".repeat(12) + "drops", 72);
        fault(true, "drops;".repeat(12), 72);
        fault(true, "drops;".repeat(12) + "  nonsense", 74);
        fault(false, "pass;".repeat(11) + "pass", FINE);
        fault(false, "pass;".repeat(12) + "pass", 60);
        fault(true, "drops if " + "not ".repeat(97) + "1=", 399);
        fault(true, "drops if " + "not ".repeat(97) + "1=1", FINE);
        fault(true, "drops if " + "not(".repeat(8) + "1=1" + ")".repeat(8), FINE);
        OrganDrums x = new OrganDrums();
        x.drum(1, 0, 0, 0);
        Due.inForce(x, "bars if " + "not ".repeat(97) + "1=2");
        DUE.is(10, "a long row of not", x.asks(0, 0, 2), 1);
        Due.inForce(x, "sounds " + "1+".repeat(8) + "0*1" + "+1-1".repeat(19));
        DUE.is(10, "a sum of many parts", x.asks(0, 0, 0), 8);
    }

    private static void orders() {
        OrganDrums x = new OrganDrums();
        x.drum(4, 0, 0, 1);
        x.drum(3, 0, 0, 1);
        DUE.is(11, "orders()", Due.orders(x, "pin 0 at 2; shift 1 by 2; stop 1"), 3);
        DUE.is(11, "the tape is empty then", x.count(6), 0);
        DUE.is(11, "of(0, 3)", x.of(0, 3), 5);
        DUE.is(11, "of(1, 2)", x.of(1, 2), 2);
        DUE.is(11, "of(1, 4)", x.of(1, 4), 1);
        DUE.is(11, "count(5)", x.count(5), 3);
        DUE.is(11, "orders()", Due.orders(x, "pass times 3"), 3);
        DUE.is(11, "count(13)", x.count(13), 3);
        DUE.is(11, "orders()", Due.orders(x, "pass times 20 if hour < 5"), 2);
        DUE.is(11, "count(13)", x.count(13), 5);
        DUE.is(11, "orders()", Due.orders(x, "pass if 1/0=1; stop 1/0 if 1=2"), 0);
        DUE.is(11, "count(13)", x.count(13), 5);
        DUE.is(11, "of(0, 2)", x.of(0, 2), 1);
        DUE.is(11, "the latest undone is an order", x.undo(), 3);
        DUE.is(11, "count(13)", x.count(13), 4);
        DUE.is(11, "orders() of blanks", Due.orders(x, "  "), -6);
        DUE.is(11, "fault()", x.fault(), 2);
        DUE.is(11, "the tape is empty then", x.count(6), 0);
        DUE.is(11, "orders() of nothing", x.orders(), -6);
        DUE.is(11, "fault()", x.fault(), 0);
        DUE.is(11, "count(11)", x.count(11), 2);
    }

    /** Each word is told by how far a drum is shifted, or whether. */
    private static void ordersAskWords() {
        String[] sums = {"hour", "1+done", "2+latest", "loud", "all", "at 1", "pins 0", "3+at 5", "3+pins 5",
            "2+pins 1-1", "done*0+5", "1+latest+done+1"};
        int[] due = {7, 1, 1, 2, 4, 2, 3, 2, 2, 2, 5, 1};
        for (int i = 0; i < sums.length; i++) {
            OrganDrums x = new OrganDrums();
            x.drum(4, 0, 0, 7);
            x.drum(5, 0, 2, 4);
            x.drum(12, 0, 0, 0);
            x.terms(0, 7);
            DUE.is(11, "orders() shift by " + sums[i], Due.orders(x, "shift 2 by " + sums[i]), 1);
            DUE.is(11, "of(2, 2) behind shift by " + sums[i], x.of(2, 2), due[i]);
        }
        OrganDrums x = new OrganDrums();
        x.drum(2, 0, 0, 1);
        x.drum(12, 0, 0, 0);
        DUE.is(11, "orders()", Due.orders(x, "pass; shift 1 by 5+latest; pass; shift 1 by 1 if latest=0 and "
                + "done=3"), 4);
        DUE.is(11, "of(1, 2)", x.of(1, 2), 9);
        OrganDrums y = new OrganDrums();
        y.drum(12, 0, 0, 0);
        DUE.is(11, "orders() asked each time", Due.orders(y, "shift 0 by 1+done times 4; stop 0 times 3 if done<6"), 6);
        DUE.is(11, "of(0, 2)", y.of(0, 2), 10);
        DUE.is(11, "of(0, 4)", y.of(0, 4), 0);
        DUE.is(11, "done and latest begin anew", Due.orders(y, "shift 0 by 1 if done=0 and latest=0-1"), 1);
        OrganDrums z = new OrganDrums();
        z.drum(3, 0, 0, 1);
        Due.inForce(z, "sounds 6; drops; bars if beat=2");
        DUE.is(11, "orders() under a law", Due.orders(z, "shift 0 by 3 times 2 if loud=6; pass; "
                + "pass if latest=6 and all=0"), 4);
        DUE.is(11, "orders() under a law", Due.orders(z, "pin 0 at 1; pin 0 at 2"), -3);
        DUE.is(13, "stopped()", z.stopped(), 1);
    }

    private static void ordersThatCannotBe() {
        String[] texts = {"pin 0 at 4", "pin 0 at 12", "pin 1 at 0", "pin 0-1 at 0", "shift 0 by 0", "shift 0 by 12",
            "shift 1 by 1", "stop 1", "stop 1/0", "pin 0 at 1%0", "shift 1000*1000*1000+1 by 1", "pass times 3",
            "stop 0/0", "pin 0 at 0-1", "shift 0 by 0-1"};
        for (String text : texts) {
            OrganDrums x = new OrganDrums();
            x.drum(4, 0, 1, 5);
            x.terms(0, 997);
            x.shift(0, 1);
            Due.inForce(x, "drops");
            DUE.is(11, "orders() " + text, Due.orders(x, "pin 0 at 1;shift 0 by 1;stop 0;" + text + ";stop 0"), -3);
            DUE.is(11, "status()", x.status(), -3);
            DUE.is(13, "stopped()", x.stopped(), 3);
            DUE.is(12, "fault()", x.fault(), -1);
            DUE.is(11, "count(9)", x.count(9), 1);
            DUE.is(11, "one call was refused", x.count(7) + x.count(8), 0);
            DUE.is(11, "of(0, 3) as it was", x.of(0, 3), 5);
            DUE.is(11, "of(0, 2) as it was", x.of(0, 2), 2);
            DUE.is(11, "of(0, 4) as it was", x.of(0, 4), 0);
            DUE.is(11, "count(13) as it was", x.count(13), 997);
            DUE.is(11, "count(5) as it was", x.count(5), 1);
            DUE.is(11, "count(12) as it was", x.count(12), 0);
        }
    }

    private static void ordersAreUndoneWhole() {
        OrganDrums x = new OrganDrums();
        x.drum(12, 0, 0, 0);
        for (int i = 0; i < 16; i++) {
            x.shift(0, 1);
        }
        DUE.is(11, "orders()", Due.orders(x, "stop 0 times 20; stop 7"), -3);
        for (int i = 15; i >= 0; i--) {
            DUE.is(11, "what can be undone is as it was", x.undo(), 1);
            DUE.is(11, "of(0, 2)", x.of(0, 2), i % 12);
        }
        DUE.is(11, "undo()", x.undo(), -3);
        OrganDrums y = new OrganDrums();
        y.drum(12, 0, 0, 0);
        y.stop(0);
        // From here on sixteen changes: hours, pins and stops in turn, five of each and one hour more.
        for (int i = 0; i < 16; i++) {
            int told = i % 3 == 0 ? y.pass() : i % 3 == 1 ? y.pin(0, i / 3) : y.stop(0);
            DUE.is(11, "change " + i, told < 0 ? 1 : 0, 0);
        }
        DUE.is(11, "orders()", Due.orders(y, "pin 0 at 11 times 20; pass; stop 0; stop 7"), -3);
        DUE.is(11, "count(5)", y.count(5), 16);
        for (int i = 15; i >= 0; i--) {
            DUE.is(11, "undo()", y.undo(), i % 3 == 0 ? 3 : i % 3 == 1 ? 0 : 2);
            DUE.is(11, "count(13)", y.count(13), (i + 2) / 3);
            DUE.is(11, "of(0, 3)", y.of(0, 3), (1 << (i + 1) / 3) - 1);
            DUE.is(11, "of(0, 4)", y.of(0, 4), 1 - i / 3 % 2);
        }
        DUE.is(11, "undo()", y.undo(), -3);
    }

    /** What one text took in the reader is free for the next. */
    private static void manyTexts() {
        OrganDrums x = new OrganDrums();
        x.drum(12, 0, 0, 0);
        String sum = "1" + "+1-1".repeat(24);
        for (int i = 1; i <= 40; i++) {
            DUE.is(11, "orders()", Due.orders(x, "shift 0 by " + sum), 1);
            DUE.is(11, "of(0, 2)", x.of(0, 2), i % 12);
        }
        for (int i = 0; i < 6; i++) {
            DUE.is(10, "law()", Due.law(x, "sounds " + i + "+1-1".repeat(24)), i);
        }
        x.pin(0, x.of(0, 2));
        for (int i = 0; i < 6; i++) {
            x.force(i);
            DUE.is(10, "loud(0)", x.loud(0), i);
        }
    }

    private static void faultAndStopped() {
        OrganDrums x = new OrganDrums();
        x.drum(2, 0, 0, 0);
        Due.orders(x, "pass; stop 1");
        DUE.is(13, "stopped()", x.stopped(), 1);
        Due.law(x, "bars x");
        DUE.is(12, "fault()", x.fault(), 5);
        DUE.is(13, "law() leaves it", x.stopped(), 1);
        x.stop(9);
        DUE.is(13, "so does stop()", x.stopped(), 1);
        Due.orders(x, "pass pass");
        DUE.is(12, "fault()", x.fault(), 5);
        DUE.is(13, "stopped()", x.stopped(), -1);
        Due.orders(x, "stop 0; stop 0; stop 3");
        DUE.is(12, "a text that was read has none", x.fault(), -1);
        DUE.is(13, "stopped()", x.stopped(), 2);
        Due.law(x, "bars");
        DUE.is(12, "fault()", x.fault(), -1);
        Due.orders(x, "pass");
        DUE.is(13, "stopped()", x.stopped(), -1);
        Due.law(x, "x");
        DUE.is(12, "fault()", x.fault(), 0);
        for (int i = 1; i < 6; i++) {
            Due.law(x, "bars");
        }
        Due.law(x, "sounds");
        DUE.is(12, "fault()", x.fault(), -1);
        Due.orders(x, " ?");
        Due.law(x, "bars");
        DUE.is(12, "a law without room is not read", x.fault(), 1);
    }
}
