import java.util.ArrayList;
import java.util.List;

/** Counts and tells the answers that are not the ones that are due. */
final class Due {
    /** Words of the document that answers are due by, with the promise that they were told of. */
    record Words(int promise, String text) {
    }

    private final List<Words> said = new ArrayList<>();
    private int wrong = 0;
    private int asked = 0;

    void is(int promise, String call, long got, long want) {
        asked++;
        if (got != want) {
            wrong++;
            System.out.println("promise " + promise + ": " + call + " answered " + got + ", due is " + want);
        }
    }

    /** From here on answers are due by these words, which the document has for this promise or among its terms. */
    void says(int promise, String words) {
        said.add(new Words(promise, words));
    }

    void is(String call, long got, long want) {
        Words words = said.get(said.size() - 1);
        asked++;
        if (got != want) {
            wrong++;
            System.out.println("promise " + words.promise() + ", \"" + words.text() + "\": " + call + " answered " + got
                    + ", due is " + want);
        }
    }

    /** What is not an answer: something that must be so. */
    void holds(String told, boolean so) {
        asked++;
        if (!so) {
            wrong++;
            Words words = said.get(said.size() - 1);
            System.out.println("promise " + words.promise() + ", \"" + words.text() + "\": " + told);
        }
    }

    List<Words> allSaid() {
        return said;
    }

    /** Puts a text on the tape, which is empty, and makes a law of it. */
    static int law(OrganDrums x, String text) {
        Calls.tape(x, text);
        return x.law();
    }

    /** A law that is in force at once. */
    static void inForce(OrganDrums x, String text) {
        x.force(law(x, text));
    }

    static int orders(OrganDrums x, String text) {
        Calls.tape(x, text);
        return x.orders();
    }

    void end() {
        System.out.println(asked - wrong + " of " + asked + " answers are as due");
        if (wrong != 0) {
            System.exit(1);
        }
    }
}
