import java.io.IOException;

/**
 * The boundary cases of the document, sentence by sentence: the last input that is allowed and the first that is not,
 * nothing at all and as much as can be, what goes round to its beginning, and what refused calls leave.
 */
public final class EdgesTest {
    private EdgesTest() {
    }

    public static void main(String[] args) throws IOException {
        Due due = new Due();
        EdgesOfDrums.check(due);
        EdgesOfTexts.check(due);
        EdgesOfOrders.check(due);
        EdgesOfRounds.check(due);
        EdgesOfHeard.check(due);
        EdgesOfDays.check(due);
        boolean complete = new Document().isSpokenOf(due.allSaid());
        due.end();
        if (!complete) {
            System.exit(1);
        }
    }
}
