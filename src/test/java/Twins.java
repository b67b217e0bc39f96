import java.util.ArrayList;
import java.util.List;
import java.util.function.Supplier;

/**
 * Two objects that went the same way, on one of which one call more is made that must leave all as it was: whatever
 * they are asked then, and wherever they are led from there, they must answer the same.
 */
final class Twins {
    /** count() tells of the refusals by these from 7 on. */
    private static final int[] REFUSALS = {-1, -2, -3, -5, -6};

    private Twins() {
    }

    /** A call that is refused: its answer, what status() and count() tell of it, and what it leaves. */
    static void refused(Due due, Supplier<OrganDrums> way, long why, String name, int... numbers) {
        OrganDrums x = way.get();
        int[] before = refusals(x);
        String told = Calls.told(name, numbers);
        due.is(told, Calls.call(x, name, numbers), why);
        due.is("status() behind " + told, x.status(), why);
        int[] behind = refusals(x);
        for (int i = 0; i < REFUSALS.length; i++) {
            int more = REFUSALS[i] == why ? 1 : 0;
            due.is("count(" + (7 + i) + ") behind " + told, behind[i], before[i] + more);
        }
        boolean reads = name.equals("law") || name.equals("orders");
        // A text that was read is gone from the tape, and has its own fault; orders have their own clause.
        Supplier<OrganDrums> other = reads ? () -> without(way) : way;
        boolean sameFault = !reads || why == -5;
        boolean sameStop = !name.equals("orders");
        same(due, told, () -> with(way, name, numbers), other, sameFault, sameStop);
    }

    /** A call that only asks, or answers NONE: it leaves everything, what the latest refusal was, too. */
    static void leaves(Due due, Supplier<OrganDrums> way, String name, int... numbers) {
        String told = Calls.told(name, numbers);
        OrganDrums x = with(way, name, numbers);
        OrganDrums y = way.get();
        due.is("status() behind " + told, x.status(), y.status());
        int[] mine = refusals(x);
        int[] others = refusals(y);
        for (int i = 0; i < REFUSALS.length; i++) {
            due.is("count(" + (7 + i) + ") behind " + told, mine[i], others[i]);
        }
        same(due, told, () -> with(way, name, numbers), way, true, true);
    }

    private static OrganDrums without(Supplier<OrganDrums> way) {
        OrganDrums x = way.get();
        x.end(0);
        return x;
    }

    private static OrganDrums with(Supplier<OrganDrums> way, String name, int... numbers) {
        OrganDrums x = way.get();
        Calls.call(x, name, numbers);
        return x;
    }

    private static int[] refusals(OrganDrums x) {
        int[] all = new int[REFUSALS.length];
        for (int i = 0; i < all.length; i++) {
            all[i] = x.count(7 + i);
        }
        return all;
    }

    /** Each trial takes new objects: none may be asked more than 512 times. */
    private static void same(Due due, String told, Supplier<OrganDrums> one, Supplier<OrganDrums> other, boolean fault,
            boolean stop) {
        equal(due, "behind " + told, look(one.get(), fault, stop), look(other.get(), fault, stop));
        equal(due, "undone behind " + told, undone(one.get()), undone(other.get()));
        for (String next : new String[] {"row", "law", "orders", "pass", "undo", "forget"}) {
            equal(due, next + "() behind " + told, led(one.get(), next), led(other.get(), next));
        }
        for (int k = 0; k < 2; k++) {
            equal(due, "back(" + k + ") behind " + told, led(one.get(), "back", k), led(other.get(), "back", k));
        }
    }

    private static List<String> led(OrganDrums x, String name, int... numbers) {
        long answer = Calls.call(x, name, numbers);
        boolean reads = name.equals("law") && answer != -5 || name.equals("orders");
        List<String> all = look(x, reads, name.equals("orders"));
        all.add(Calls.told(name, numbers) + " is " + answer);
        return all;
    }

    /** All that can be asked for, but the refusals. */
    private static List<String> look(OrganDrums x, boolean fault, boolean stop) {
        List<String> all = new ArrayList<>();
        for (int i = 0; i <= 15; i++) {
            if (i < 7 || i > 11) {
                tell(all, x, "count", i);
            }
        }
        for (int d = 0; d < 6; d++) {
            for (int i = 0; i < 6; i++) {
                tell(all, x, "of", d, i);
            }
            for (int i = 0; i < 3; i++) {
                tell(all, x, "drawn", d, i);
                tell(all, x, "asks", d, 3, i);
            }
        }
        for (String name : new String[] {"sleeves", "round", "canBe"}) {
            tell(all, x, name);
        }
        for (int i = 0; i < 4; i++) {
            tell(all, x, "loud", i);
            tell(all, x, "compare", i - 1);
        }
        if (fault) {
            tell(all, x, "fault");
        }
        if (stop) {
            tell(all, x, "stopped");
        }
        tell(all, x, "few", 2, 3);
        return all;
    }

    private static List<String> undone(OrganDrums x) {
        List<String> all = new ArrayList<>();
        for (int n = 0; n <= 16; n++) {
            tell(all, x, "undo");
            tell(all, x, "count", 13);
            for (int d = 0; d < 6; d++) {
                for (int i = 2; i < 5; i++) {
                    tell(all, x, "of", d, i);
                }
            }
        }
        return all;
    }

    private static void tell(List<String> all, OrganDrums x, String name, int... numbers) {
        all.add(Calls.told(name, numbers) + " is " + Calls.call(x, name, numbers));
    }

    private static void equal(Due due, String told, List<String> one, List<String> other) {
        for (int i = 0; i < one.size() && i < other.size(); i++) {
            if (!one.get(i).equals(other.get(i))) {
                due.holds(told + " " + one.get(i) + ", without it " + other.get(i), false);
                return;
            }
        }
        due.holds(told + " more is asked of one than of the other", one.size() == other.size());
    }
}
