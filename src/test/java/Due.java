/** Counts and tells the answers that are not the ones that are due. */
final class Due {
    private int wrong = 0;
    private int asked = 0;

    void is(int promise, String call, long got, long want) {
        asked++;
        if (got != want) {
            wrong++;
            System.out.println("promise " + promise + ": " + call + " answered " + got + ", due is " + want);
        }
    }

    /** Puts a text on the tape, which is empty, and makes a law of it. */
    static int law(OrganDrums x, String text) {
        Calls.tape(x, text);
        return x.law();
    }

    /** A law that is in force at once. */
    static void inForce(OrganDrums x, String text) {
        x.force(law(x, text));
    }

    static int orders(OrganDrums x, String text) {
        Calls.tape(x, text);
        return x.orders();
    }

    void end() {
        System.out.println(asked - wrong + " of " + asked + " answers are as due");
        if (wrong != 0) {
            System.exit(1);
        }
    }
}
