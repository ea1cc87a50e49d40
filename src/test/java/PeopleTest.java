/** Promises 1 to 8: a new object, person, of, asks, glass, wanted, lens, terms. */
public final class PeopleTest {
    private static final Due DUE = new Due("PeopleTest");

    public static void main(String[] args) {
        newObject();
        person();
        of();
        asks();
        glass();
        wanted();
        lens();
        terms();
        DUE.end();
    }

    private static void newObject() {
        SinLenses x = new SinLenses();
        int[] counts = {0, 0, 0, 0, 0, 0, 0, 0, 0, 0, 0, -1, 0, 1, 0, 0};
        for (int what = 0; what < counts.length; what++) {
            DUE.is(1, "count(" + what + ")", x.count(what), counts[what]);
        }
        DUE.is(1, "status()", x.status(), 0);
        DUE.is(1, "fault()", x.fault(), -1);
        DUE.is(1, "stopped()", x.stopped(), -1);
        DUE.is(1, "smears()", x.smears(), 0);
        DUE.is(1, "drawn(0, 0)", x.drawn(0, 0), -1);
        DUE.is(1, "NONE", SinLenses.NONE, -1);
        DUE.is(1, "NOTHING", SinLenses.NOTHING, -100);
    }

    private static void person() {
        SinLenses x = new SinLenses();
        for (int n = 0; n < 6; n++) {
            DUE.is(2, "person()", x.person(), n);
        }
        DUE.is(2, "the seventh person()", x.person(), -5);
        DUE.is(2, "status()", x.status(), -5);
        DUE.is(2, "count(0)", x.count(0), 6);
        for (int what = 0; what <= 12; what++) {
            int want = what >= 5 && what <= 8 ? -1 : 0;
            DUE.is(2, "of(5, " + what + ")", x.of(5, what), want);
        }
        SinLenses y = Due.parish(1);
        y.image(0);
        y.person();
        y.sin(1, 0, 5);
        y.sin(1, 3, 5);
        y.glass(1, 3);
        y.wanted(1, 2);
        y.back(0);
        y.person();
        DUE.is(2, "a PERSON anew is without SINS", y.count(1), 0);
        DUE.is(2, "a PERSON anew is without LENSES", y.of(1, 4), 0);
        DUE.is(2, "of a PERSON anew 0 is WANTED", y.of(1, 11), 0);
    }

    private static void of() {
        SinLenses x = Due.under("bars if person = 1", 2);
        x.terms(3, 37);
        x.sin(0, 0, 1);
        x.sin(0, 1, 2);
        x.sin(0, 2, 3);
        x.sin(0, 3, 8);
        x.glass(0, 417);
        x.wanted(0, 2);
        // 37 is moved to 74, stays so, is turned to 181 of which five CELLS are lit.
        int[] want = {1, 2, 3, 8, 3, 3, 0, 6, -1, 181, 1, 2, 0};
        for (int what = 0; what < want.length; what++) {
            DUE.is(3, "of(0, " + what + ")", x.of(0, what), want[what]);
        }
        DUE.is(3, "of(1, 12)", x.of(1, 12), 1);
        x.glass(1, 2468);
        DUE.is(3, "the first LENS", x.of(1, 5), 1);
        DUE.is(3, "the last LENS", x.of(1, 8), 7);
        // 37, spread 111, moved 222, nibbles changed 237, of which those below a lit one: 237 & 118.
        DUE.is(3, "through four LENSES", x.of(1, 9), 100);
        DUE.is(3, "of(0, -1)", x.of(0, -1), -1);
        DUE.is(3, "of(0, 13)", x.of(0, 13), -1);
        DUE.is(3, "of(2, 0)", x.of(2, 0), -1);
        DUE.is(3, "of(-1, 0)", x.of(-1, 0), -1);
        DUE.is(3, "of(the least, the most)", x.of(Integer.MIN_VALUE, Integer.MAX_VALUE), -1);
        // Which LENS comes first matters: dark ends, then moved up; and the other way round.
        x.terms(3, 129);
        x.glass(0, 54);
        DUE.is(3, "dark ends, then moved", x.of(0, 9), 0);
        x.glass(0, 45);
        DUE.is(3, "moved, then dark ends", x.of(0, 9), 2);
    }

    private static void asks() {
        SinLenses x = Due.parish(1);
        x.sin(0, 3, 4);
        x.sin(0, 2, 3);
        DUE.is(4, "4 without LAW", x.asks(0, 3, 0), 4);
        DUE.is(4, "3 without LAW", x.asks(0, 2, 0), 0);
        DUE.is(4, "growth without LAW", x.asks(0, 3, 1), 0);
        x.force(Due.law(x, "grinds 0 - 5 if kind = 0; grinds 99 if kind = 1; grinds 6 if kind = 2; grows 0 - 99 if kind = 0;"
            + "grows 99 if kind = 1; grows 0 - 3 if kind = 2"));
        DUE.is(4, "the nearest LENS below", x.asks(0, 0, 0), 0);
        DUE.is(4, "the nearest LENS above", x.asks(0, 1, 0), 7);
        DUE.is(4, "a LENS", x.asks(0, 2, 0), 6);
        DUE.is(4, "none told", x.asks(0, 3, 0), 4);
        DUE.is(4, "least growth", x.asks(0, 0, 1), -8);
        DUE.is(4, "most growth", x.asks(0, 1, 1), 8);
        DUE.is(4, "growth", x.asks(0, 2, 1), -3);
        DUE.is(4, "no growth told", x.asks(0, 3, 1), 0);
        DUE.is(4, "asks(1, 0, 0)", x.asks(1, 0, 0), -100);
        DUE.is(4, "asks(-1, 0, 0)", x.asks(-1, 0, 0), -100);
        DUE.is(4, "asks(0, 4, 0)", x.asks(0, 4, 0), -100);
        DUE.is(4, "asks(0, -1, 0)", x.asks(0, -1, 0), -100);
        DUE.is(4, "asks(0, 0, 2)", x.asks(0, 0, 2), -100);
        DUE.is(4, "asks(0, 0, -1)", x.asks(0, 0, -1), -100);
    }

    private static void glass() {
        SinLenses x = Due.parish(1);
        DUE.is(5, "glass(0, 8888)", x.glass(0, 8888), 4);
        DUE.is(5, "glass(0, 1)", x.glass(0, 1), 1);
        DUE.is(5, "its LENS", x.of(0, 5), 0);
        int[] wrong = {-1, 9, 10, 19, 101, 8889, 9999, 10000, 11111, Integer.MAX_VALUE, Integer.MIN_VALUE};
        for (int lenses : wrong) {
            DUE.is(5, "glass(0, " + lenses + ")", x.glass(0, lenses), -1);
            DUE.is(5, "glass(9, " + lenses + ")", x.glass(9, lenses), -1);
        }
        DUE.is(5, "what a REFUSED one left", x.of(0, 4), 1);
        DUE.is(5, "glass(1, 1)", x.glass(1, 1), -2);
        DUE.is(5, "glass(-1, 1)", x.glass(-1, 1), -2);
        DUE.is(5, "glass(0, 0)", x.glass(0, 0), 0);
        DUE.is(5, "none", x.of(0, 5), -1);
    }

    private static void wanted() {
        SinLenses x = Due.parish(1);
        DUE.is(6, "wanted(0, 3)", x.wanted(0, 3), 0);
        DUE.is(6, "wanted(0, 1)", x.wanted(0, 1), 3);
        DUE.is(6, "wanted(0, 4)", x.wanted(0, 4), -1);
        DUE.is(6, "wanted(0, -1)", x.wanted(0, -1), -1);
        DUE.is(6, "wanted(5, 4)", x.wanted(5, 4), -1);
        DUE.is(6, "wanted(1, 0)", x.wanted(1, 0), -2);
        DUE.is(6, "of(0, 11)", x.of(0, 11), 1);
    }

    private static void lens() {
        SinLenses x = new SinLenses();
        int[][] want = {
            {0, 0, 0}, {0, 255, 255}, {1, 1, 3}, {1, 128, 128}, {1, 255, 255}, {1, 0, 0}, {2, 1, 128}, {2, 18, 72},
            {2, 128, 1}, {3, 128, 1}, {3, 1, 2}, {3, 129, 3}, {4, 255, 126}, {4, 129, 0}, {5, 1, 16}, {5, 240, 15},
            {5, 18, 33}, {6, 0, 255}, {6, 255, 0}, {6, 1, 254}, {7, 255, 127}, {7, 128, 0}, {7, 3, 1}, {7, 6, 2},
            {-1, 0, -1}, {8, 0, -1}, {0, -1, -1}, {0, 256, -1}, {7, 256, -1}};
        for (int[] row : want) {
            DUE.is(7, "lens(" + row[0] + ", " + row[1] + ")", x.lens(row[0], row[1]), row[2]);
        }
        DUE.is(7, "status()", x.status(), 0);
        DUE.is(7, "count(6)", x.count(6), 0);
        for (int lens = 0; lens < 8; lens++) {
            SinLenses each = new SinLenses();
            for (int n = 0; n < 256; n++) {
                DUE.is(7, "lens(" + lens + ", " + n + ")", each.lens(lens, n), Due.lens(lens, n));
            }
        }
    }

    private static void terms() {
        SinLenses x = new SinLenses();
        int[] most = {999, 10, 9, 255};
        int[] first = {0, 1, 0, 0};
        for (int what = 0; what < 4; what++) {
            DUE.is(8, "the first value", x.terms(what, most[what]), first[what]);
            DUE.is(8, "count", x.count(12 + what), most[what]);
            DUE.is(8, "beyond", x.terms(what, most[what] + 1), -1);
            DUE.is(8, "below", x.terms(what, -1), -1);
            DUE.is(8, "what it was", x.terms(what, 0), most[what]);
        }
        DUE.is(8, "terms(4, 0)", x.terms(4, 0), -1);
        DUE.is(8, "terms(-1, 0)", x.terms(-1, 0), -1);
        DUE.is(8, "count(6)", x.count(6), 10);
    }
}
