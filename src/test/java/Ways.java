/** Ways to bring a new object into a state: two objects that went the same way are in the same one. */
final class Ways {
    private Ways() {
    }

    static OrganDrums empty() {
        return new OrganDrums();
    }

    /** The bytes of a drum, as row() takes them. */
    static String four(int length, int kind, int at, int pins) {
        return "" + (char) length + (char) kind + (char) at + (char) pins;
    }

    /** Something of everything, and room for more: image 1 was not kept, beats 3 are barred, the tape has a drum. */
    static OrganDrums busy() {
        OrganDrums x = new OrganDrums();
        Calls.tape(x, four(4, 1, 0, 5) + four(3, 2, 1, 3) + "x");
        x.row();
        x.drum(12, 3, 11, 2049);
        Due.law(x, "sounds 2+beat; drops if drum=0 and hour=3; bars if beat=3");
        Due.law(x, "sounds 5");
        x.force(0);
        x.terms(0, 3);
        x.terms(1, 2);
        x.terms(2, 7);
        x.heard(2, 1);
        x.image(0);
        x.days(77, 5);
        x.heard(5, 0);
        Due.orders(x, "pass; stop 9");
        Due.law(x, "bars x");
        x.pin(2, 4);
        x.shift(1, 2);
        x.stop(2);
        x.pass();
        x.stop(1);
        Calls.tape(x, four(5, 1, 2, 3) + "a");
        return x;
    }

    /** As busy(), with another text, or none, on the tape. */
    static OrganDrums busyWith(String text) {
        OrganDrums x = busy();
        x.end(0);
        Calls.tape(x, text);
        return x;
    }

    /** As much of everything as can be; the tape has orders. */
    static OrganDrums full() {
        OrganDrums x = new OrganDrums();
        int[] lengths = {12, 11, 10, 9, 8, 7};
        for (int d = 0; d < 6; d++) {
            x.drum(lengths[d], d % 4, d, (1 << lengths[d]) - 1);
            Due.law(x, "sounds " + d + "+beat%3");
            x.heard(99 - d, 1);
        }
        x.force(5);
        x.image(0);
        x.terms(1, 10);
        x.terms(2, 9);
        x.terms(0, 985);
        x.image(1);
        x.days(1000000, 60);
        for (int i = 0; i < 14; i++) {
            x.pass();
        }
        x.shift(5, 11);
        x.stop(0);
        Calls.tape(x, "stop 0" + " ".repeat(394));
        return x;
    }

    /** As full(), with another text on the tape. */
    static OrganDrums fullWith(String text) {
        OrganDrums x = full();
        x.end(0);
        Calls.tape(x, text);
        return x;
    }
}
