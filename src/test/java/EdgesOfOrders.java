/** Boundary cases of promises 11 and 13, and of what sums and tests come to. */
final class EdgesOfOrders {
    private static final String BILLION = "1000*1000*1000";

    private final Due due;

    private EdgesOfOrders(Due due) {
        this.due = due;
    }

    static void check(Due due) {
        EdgesOfOrders edges = new EdgesOfOrders(due);
        edges.sumsOfLaws();
        edges.brokenSums();
        edges.tests();
        edges.howManyWereRun();
        edges.times();
        edges.askedEachTime();
        edges.words();
        edges.wordsWithoutADrum();
        edges.lastOrdersThatCanBe();
        edges.firstOrdersThatCannot();
        edges.brokenOrders();
        edges.allIsAsItWas();
        edges.stopped();
    }

    /** A law's test, asked of drum 0 at beat 1. */
    private void so(String test, boolean want) {
        OrganDrums x = new OrganDrums();
        x.drum(3, 0, 0, 0);
        due.is("law() by " + test, Due.law(x, "bars if " + test), 0);
        x.force(0);
        due.is("asks(0, 1, 2) by " + test, x.asks(0, 1, 2), want ? 1 : 0);
        // The same test, asked by orders.
        OrganDrums y = new OrganDrums();
        y.terms(0, 1);
        due.is("orders() by " + test, Due.orders(y, "pass if " + test.replace("beat", "hour")), want ? 1 : 0);
    }

    private void sumsOfLaws() {
        due.says(4, "SUM: TERM {(\"+\" | \"-\") TERM}");
        so("7-2-1=4", true);
        so("7-2+1=6", true);
        so("0-1<0", true);
        so("1+2*3=7", true);
        so("2*3+1=7", true);
        so("[1+2]*3=9", true);
        due.says(4, "TERM: PART {(\"*\" | \"/\" | \"%\") PART}");
        so("8/2/2=2", true);
        so("8/2*2=8", true);
        so("7%4%2=1", true);
        so("7*2%5=4", true);
        so("8-6/2=5", true);
        due.says(4, "(/ cut towards 0, % what is left then)");
        so("7/2=3", true);
        so("[0-7]/2=0-3", true);
        so("7/[0-2]=0-3", true);
        so("[0-7]/[0-2]=3", true);
        so("[0-1]/2=0", true);
        so("0/5=0", true);
        so("7%2=1", true);
        so("[0-7]%2=0-1", true);
        so("7%[0-2]=1", true);
        so("[0-7]%[0-2]=0-1", true);
        so("6%2=0", true);
        so("[0-6]%2=0", true);
        so("0%5=0", true);
        so("5%1=0", true);
    }

    private void brokenSums() {
        due.says(4, "Beyond 1,000,000,000 either way, or divided by 0");
        so(BILLION + "=" + BILLION, true);
        so(BILLION + ">0", true);
        so(BILLION + "-1+1=" + BILLION, true);
        so(BILLION + "+0>0", true);
        so(BILLION + "+1>0", false);
        so("not " + BILLION + "+1>0", false);
        so("1+" + BILLION + ">0", false);
        so("0-" + BILLION + "<0", true);
        so("0-" + BILLION + "-0<0", true);
        so("0-" + BILLION + "-1<0", false);
        so("not 0-" + BILLION + "-1<0", false);
        so("[0-1]*" + BILLION + "<0", true);
        so(BILLION + "*1>0", true);
        so(BILLION + "*2>0", false);
        so(BILLION + "*[0-1]<0", true);
        so(BILLION + "*[0-2]<0", false);
        so(BILLION + "*" + BILLION + ">0", false);
        so("1000*1000*1000*1000*1000*1000*1000*1000>0", false);
        so("1000*1000*[1000+1]>0", false);
        so(BILLION + "/[0-1]<0", true);
        so(BILLION + "/1>0", true);
        so("1/0=0", false);
        so("not 1/0=0", false);
        so("0/0=0", false);
        so("1%0=0", false);
        so("not 1%0=0", false);
        so("1/[1-1]=0", false);
        so("1/[1/2]=0", false);
        so("1/[6%2]=0", false);
        so("0=1/0", false);
        so("1/0=1/0", false);
        so("[1/0]*0=0", false);
        so("0*[1/0]=0", false);
        so("1/[1-beat]=1", false);
        so("1/beat=1", true);
        due.says(4, "(\"or\", \"and\" ask what stands behind only if it can still matter)");
        so("1=1 or 1/0=0", true);
        so("1=2 or 1/0=0", false);
        so("not (1=2 or 1/0=0)", false);
        so("1/0=0 or 1=1", false);
        so("1=2 and 1/0=0", false);
        so("not (1=2 and 1/0=0)", true);
        so("1=1 and 1/0=0", false);
        so("not (1=1 and 1/0=0)", false);
        so("not (1/0=0 and 1=2)", false);
        so("1=2 and 1/0=0 or 1=1", true);
        so("1=1 or 1=1 and 1/0=0", true);
        so("1=1 or 1/0=0 or 1/0=0", true);
        so("1=2 or 1=1 or 1/0=0", true);
        so("1=1 and 1=2 and 1/0=0 or 1=1", true);
        so("(1=1 or 1/0=0) and 1=1", true);
        so("(1=1 or 1/0=0) and 1/0=0", false);
    }

    private void tests() {
        due.says(4, "PLAIN: \"not\" PLAIN | \"(\" TEST \")\" | SUM (\"<\" | \">\" | \"=\") SUM");
        so("1<2", true);
        so("2<2", false);
        so("3<2", false);
        so("2>1", true);
        so("2>2", false);
        so("2>3", false);
        so("2=2", true);
        so("2=1", false);
        for (String so : new String[] {"1<2", "2>1", "2=2", "0-2<0-1", "0-1>0-2", "0-1=0-1"}) {
            so(so, true);
            so("not " + so, false);
            so("not not " + so, true);
            so("not " + so + " and 1=1", false);
            so("not " + so + " or 1=2", false);
            so("1=1 and not " + so, false);
            so(so + " and 1=1", true);
            so("1=1 and " + so, true);
            so(so + " or 1=2", true);
            so("1=2 or " + so, true);
            so("not (" + so + ")", false);
            so("(" + so + ")", true);
        }
        for (String not : new String[] {"2<1", "2<2", "1>2", "2>2", "1=2", "0-1<0-2", "0-2>0-1", "1=0-1"}) {
            so(not, false);
            so("not " + not, true);
            so("not not " + not, false);
            so("not " + not + " and 1=2", false);
            so("not " + not + " or 1=2", true);
            so("1=1 and not " + not, true);
            so(not + " and 1=1", false);
            so("1=1 and " + not, false);
            so(not + " or 1=1", true);
            so(not + " or 1=2", false);
            so("1=1 or " + not, true);
            so("not (" + not + ")", true);
            so("(" + not + ")", false);
        }
        so("not 2=1", true);
        so("not 2=2", false);
        so("not not 2=2", true);
        so("not not not 2=2", false);
        so("not (2=2)", false);
        so("(not 2=2)", false);
        so("not ".repeat(96) + "2=2", true);
        so("not ".repeat(95) + "2=2", false);
        due.says(4, "TEST: BOTH {\"or\" BOTH}");
        so("1=2 or 1=1", true);
        so("1=2 or 1=2", false);
        so("1=1 or 1=2 and 1=2", true);
        so("(1=1 or 1=2) and 1=2", false);
        so("1=2 or 1=2 or 1=1", true);
        so("not 1=1 or 1=1", true);
        due.says(4, "BOTH: PLAIN {\"and\" PLAIN}");
        so("1=1 and 1=1", true);
        so("1=1 and 1=2", false);
        so("1=1 and 1=1 and 1=2", false);
        so("not 1=2 and 1=1", true);
        so("not 1=2 and 1=2", false);
        so("1=2 and 1=2 or 1=1", true);
    }

    private void howManyWereRun() {
        due.says(11, "ORDERS, the TAPE is empty then: how many were run");
        OrganDrums x = new OrganDrums();
        x.drum(12, 0, 0, 0);
        due.is("orders()", Due.orders(x, "pass if 1=2"), 0);
        due.is("status()", x.status(), 0);
        due.is("count(6)", x.count(6), 0);
        due.is("orders()", Due.orders(x, "stop 0"), 1);
        due.is("orders() of as many as can be", Due.orders(x, "stop 0 times 20" + ";stop 0 times 20".repeat(11)), 240);
        due.is("of(0, 4)", x.of(0, 4), 1);
        due.is("count(5)", x.count(5), 16);
        due.is("orders()", Due.orders(x, "pass times 20" + ";pass times 20".repeat(11)), 240);
        due.is("count(13)", x.count(13), 240);
    }

    private void times() {
        due.says(11, "Run CLAUSE by CLAUSE, each as often as TIMES tell (once without)");
        OrganDrums x = new OrganDrums();
        x.drum(12, 0, 0, 0);
        due.is("orders()", Due.orders(x, "pass times 20"), 20);
        due.is("count(13)", x.count(13), 20);
        due.is("orders()", Due.orders(x, "pass times 1"), 1);
        due.is("count(13)", x.count(13), 21);
        due.is("orders()", Due.orders(x, "pass"), 1);
        due.is("count(13)", x.count(13), 22);
        due.is("orders()", Due.orders(x, "pin 0 at 3 times 3; shift 0 by 5 times 2; stop 0 times 2"), 7);
        due.is("of(0, 3)", x.of(0, 3), 8);
        due.is("of(0, 2)", x.of(0, 2), (22 + 10) % 12);
        due.is("of(0, 4)", x.of(0, 4), 0);
        due.is("orders()", Due.orders(x, "pass times 0020"), 20);
    }

    private void askedEachTime() {
        due.says(11, "each time its \"if\" is asked (not run, if it is not so or BROKEN), then its SUMS from the left");
        OrganDrums x = new OrganDrums();
        x.drum(12, 0, 0, 0);
        due.is("orders()", Due.orders(x, "pass times 20 if hour<7"), 7);
        due.is("orders()", Due.orders(x, "pass times 20 if hour<7"), 0);
        due.is("orders(), broken at hour 7", Due.orders(x, "pass if 1/[hour-7]=0"), 0);
        due.is("status()", x.status(), 0);
        due.is("orders(), a broken one goes on", Due.orders(x, "pass if 1/0=0; pass; pass if 1%0=0"), 1);
        due.is("orders(), broken once", Due.orders(x, "pass times 3 if 6/[done-1]<7 or done=0"), 1);
        due.is("count(13)", x.count(13), 9);
        due.is("orders(), a sum that is not asked", Due.orders(x, "stop 1/0 if 1=2; pin 9 at 99 if done=1"), 0);
        due.is("orders(), sums each time", Due.orders(x, "shift 0 by 1+done times 3"), 3);
        due.is("of(0, 2)", x.of(0, 2), (9 + 1 + 2 + 3) % 12);
        due.is("orders(), asked of what stands then", Due.orders(x, "pin 0 at pins 0 times 12 if pins 0<12"), 12);
        due.is("of(0, 3)", x.of(0, 3), 4095);
        due.is("orders(), an if that ends by what was run", Due.orders(x, "stop 0 times 20 if done<4; pass if done=4"),
                5);
        due.is("of(0, 4)", x.of(0, 4), 0);
    }

    /** A word's value, told by how far drum 2 of 12 beats is shifted from beat 0. */
    private void word(String sum, int want) {
        OrganDrums x = new OrganDrums();
        x.drum(4, 0, 3, 15);
        x.drum(5, 0, 0, 0);
        x.drum(12, 0, 0, 1);
        x.terms(0, 6);
        due.is("orders() by " + sum, Due.orders(x, "shift 2 by " + sum), 1);
        due.is("of(2, 2) by " + sum, x.of(2, 2), want);
    }

    private void words() {
        due.says(11, "done: how many were run in this TEXT, latest: what the latest pass in it told (-1: none),"
                + " loud: how LOUD it is now, all: how many PINS there are in all DRUMS, at: the BEAT a DRUM is AT,"
                + " pins: how many PINS it has");
        word("hour", 6);
        word("1+done", 1);
        word("2+latest", 1);
        word("loud", 2);
        word("all", 5);
        word("at 0", 3);
        word("1+at 1", 1);
        word("pins 0", 4);
        word("1+pins 1", 1);
        word("pins 2", 1);
        OrganDrums x = new OrganDrums();
        x.drum(3, 0, 0, 1);
        x.drum(12, 0, 0, 0);
        Due.inForce(x, "sounds 7; drops if hour>2");
        due.is("orders()", Due.orders(x, "pass; pass if latest=7; pass if latest=0 and done=2; stop 0 if loud=7;"
                + "stop 0 if loud=0; pass if all=1 and done=5 and hour=3; pass if all=0 and latest=7; shift 1 by pins 0+3"),
                8);
        due.is("of(1, 2), shifted by 3 behind 5 hours", x.of(1, 2), 8);
        due.is("count(13)", x.count(13), 5);
        due.is("orders(), done and latest begin anew", Due.orders(x, "pass if done=0 and latest=0-1; pass if latest=0"),
                2);
        OrganDrums y = new OrganDrums();
        for (int d = 0; d < 6; d++) {
            y.drum(12, 0, 0, 4095);
        }
        due.is("orders(), as many pins as can be", Due.orders(y, "pass if all=72 and pins 5=12 and at 5=0 and loud=6"), 1);
        due.is("orders()", Due.orders(y, "shift 5 by 10; pass if at 5=11; pass if at 5=0; pass if at 5=1"), 4);
    }

    private void wordsWithoutADrum() {
        due.says(11, "-1 each without such a DRUM");
        for (int drums = 0; drums <= 6; drums++) {
            OrganDrums x = new OrganDrums();
            for (int d = 0; d < drums; d++) {
                x.drum(2, 0, 1, 3);
            }
            for (int d = 0; d < 6; d++) {
                String at = "pass if at " + d + "=" + (d < drums ? "1" : "0-1");
                String pins = "pass if pins " + d + "=" + (d < drums ? "2" : "0-1");
                due.is("orders() " + at + " with " + drums, Due.orders(x, at), 1);
                x.undo();
                due.is("orders() " + pins + " with " + drums, Due.orders(x, pins), 1);
                x.undo();
            }
        }
    }

    private static OrganDrums three(int hour) {
        OrganDrums x = new OrganDrums();
        x.drum(4, 0, 1, 5);
        x.drum(12, 0, 11, 2049);
        x.drum(1, 0, 0, 1);
        x.terms(0, hour);
        Due.inForce(x, "bars if drum=0 and beat=3; sounds 2; drops if drum=1");
        x.shift(0, 1);
        return x;
    }

    private void lastOrdersThatCanBe() {
        due.says(11, "\"pin\" SUM \"at\" SUM");
        String[] texts = {"pin 0 at 1", "pin 1 at 11", "pin 1 at 0", "pin 2 at 0", "pin 0 at 2", "shift 0 by 1",
            "shift 0 by 11", "shift 2 by 11", "stop 0", "stop 2", "pass", "pin 2-2 at 4/4", "shift 1 by 1000/99+1"};
        for (String text : texts) {
            OrganDrums x = three(998);
            due.is("orders() " + text, Due.orders(x, text), 1);
            due.is("status() behind " + text, x.status(), 0);
            due.is("stopped() behind " + text, x.stopped(), -1);
            due.is("count(5) behind " + text, x.count(5), 2);
        }
    }

    private void firstOrdersThatCannot() {
        due.says(11, "-3 one can't be");
        String[] texts = {"pin 0 at 4", "pin 0 at 12", "pin 0 at 0-1", "pin 3 at 0", "pin 0-1 at 0", "pin 0 at 3",
            "pin 1000 at 0", "pin 0 at 1000", "shift 0 by 0", "shift 0 by 12", "shift 0 by 0-1", "shift 3 by 1",
            "shift 0-1 by 1", "stop 3", "stop 0-1", "stop 1000", "pass times 2", "stop " + BILLION,
            "pin 0 at " + BILLION, "shift 0-" + BILLION + " by 1"};
        for (String text : texts) {
            Twins.refused(due, () -> at(three(998), text), -3, "orders");
            OrganDrums x = three(998);
            due.is("orders() " + text, Due.orders(x, text), -3);
            due.is("stopped() behind " + text, x.stopped(), 0);
            due.is("fault() behind " + text, x.fault(), -1);
        }
    }

    private static OrganDrums at(OrganDrums x, String text) {
        Calls.tape(x, text);
        return x;
    }

    private void brokenOrders() {
        due.says(11, "One that can't be (a BROKEN SUM, as pin(), shift(), stop(), pass() are REFUSED) ends it");
        String[] texts = {"pin 1/0 at 0", "pin 0 at 1/0", "pin 0%0 at 0", "pin 0 at 1%0", "shift 1/0 by 1",
            "shift 0 by 1/0", "stop 1/0", "stop 0*[1/0]", "stop " + BILLION + "+1", "stop 0-" + BILLION + "-1",
            "pin 0 at " + BILLION + "*1000", "shift 0 by [" + BILLION + "+1]/" + BILLION};
        for (String text : texts) {
            Twins.refused(due, () -> at(three(998), text), -3, "orders");
            Twins.refused(due, () -> at(three(998), "stop 0; pass;" + text), -3, "orders");
        }
    }

    private void allIsAsItWas() {
        due.says(11, "all is as it was ahead of it");
        String[] texts = {"pin 0 at 1; shift 0 by 3; stop 1; pass; stop 9", "pass; pass", "stop 0 times 20; stop 3",
            "pin 1 at 5 times 19; pin 1 at 12", "pass times 2", "shift 1 by 11 times 17; shift 1 by 0",
            "pass if 1/0=1; stop 2; stop 2 if hour=998; stop 2-3"};
        for (String text : texts) {
            Twins.refused(due, () -> at(three(998), text), -3, "orders");
        }
        for (String text : new String[] {"stop 0 times 20; stop 6", "shift 5 by 11 times 20; pass", "pass"}) {
            Twins.refused(due, () -> Ways.fullWith(text), -3, "orders");
        }
        Twins.refused(due, () -> Ways.busyWith("pin 0 at 0; pass times 20; stop 0; shift 2 by 1; pin 0 at 3"), -3, "orders");
        Twins.refused(due, () -> at(new OrganDrums(), "pass times 20; stop 0"), -3, "orders");
    }

    private void stopped() {
        due.says(13, "Which CLAUSE of the latest orders() could not be");
        OrganDrums x = new OrganDrums();
        due.says(13, "NONE.");
        due.is("stopped()", x.stopped(), -1);
        due.says(13, "Which CLAUSE of the latest orders() could not be");
        due.is("orders()", Due.orders(x, "stop 0"), -3);
        due.is("stopped(), the first", x.stopped(), 0);
        due.is("orders()", Due.orders(x, "pass;".repeat(11) + "stop 0"), -3);
        due.is("stopped(), the last", x.stopped(), 11);
        due.is("orders()", Due.orders(x, "pass if 1=2; pass times 20; stop 0 if done=20; stop 0"), -3);
        due.is("stopped()", x.stopped(), 2);
        x.drum(1, 0, 0, 0);
        due.is("orders(), stopped the second time", Due.orders(x, "stop 0/0 if 1=2; pass; stop done-1 times 2"), -3);
        due.is("stopped()", x.stopped(), 2);
        due.is("orders()", Due.orders(x, "stop 1-done; stop 1"), -3);
        due.is("stopped()", x.stopped(), 0);
        due.is("orders()", Due.orders(x, "stop done; stop 0; stop done"), -3);
        due.is("stopped()", x.stopped(), 2);
        Due.law(x, "?");
        Due.law(x, "bars");
        x.stop(9);
        x.image(0);
        x.back(0);
        due.is("stopped() behind others", x.stopped(), 2);
        due.says(13, "NONE.");
        due.is("orders()", Due.orders(x, "pass"), 1);
        due.is("stopped()", x.stopped(), -1);
        Due.orders(x, "stop 1");
        due.is("orders()", Due.orders(x, "pass if 1=2"), 0);
        due.is("stopped(), none was run", x.stopped(), -1);
        Due.orders(x, "stop 1");
        due.is("orders()", Due.orders(x, "?"), -6);
        due.is("stopped(), not read", x.stopped(), -1);
        Due.orders(x, "stop 1");
        due.is("orders()", x.orders(), -6);
        due.is("stopped(), nothing to read", x.stopped(), -1);
        Twins.leaves(due, Ways::busy, "stopped");
        Twins.leaves(due, Ways::full, "stopped");
    }
}
