/** Promises 18 to 23: sin, grind, swap, cloth, pass, undo. */
public final class DeedsTest {
    private static final Due DUE = new Due("DeedsTest");

    public static void main(String[] args) {
        sin();
        grind();
        swap();
        cloth();
        pass();
        undo();
        undoLost();
        DUE.end();
    }

    private static void sin() {
        SinLenses x = Due.parish(2);
        DUE.is(18, "sin(1, 3, 8)", x.sin(1, 3, 8), 8);
        DUE.is(18, "sin(1, 3, 1)", x.sin(1, 3, 1), -3);
        DUE.is(18, "sin(1, 3, -8)", x.sin(1, 3, -8), 0);
        DUE.is(18, "sin(1, 3, -1)", x.sin(1, 3, -1), -3);
        DUE.is(18, "sin(1, 3, 0)", x.sin(1, 3, 0), 0);
        DUE.is(18, "sin(1, 3, 9)", x.sin(1, 3, 9), -1);
        DUE.is(18, "sin(1, 3, -9)", x.sin(1, 3, -9), -1);
        DUE.is(18, "sin(1, 3, the least)", x.sin(1, 3, Integer.MIN_VALUE), -1);
        DUE.is(18, "sin(1, 4, 1)", x.sin(1, 4, 1), -1);
        DUE.is(18, "sin(1, -1, 1)", x.sin(1, -1, 1), -1);
        DUE.is(18, "sin(7, 4, 1)", x.sin(7, 4, 1), -1);
        DUE.is(18, "sin(2, 0, -1)", x.sin(2, 0, -1), -2);
        DUE.is(18, "sin(-1, 0, 1)", x.sin(-1, 0, 1), -2);
        DUE.is(18, "another's are as they were", x.of(0, 3), 0);
    }

    private static void grind() {
        SinLenses x = Due.parish(1);
        x.glass(0, 6666);
        DUE.is(19, "none", x.grind(0), 0);
        DUE.is(19, "of(0, 4)", x.of(0, 4), 0);
        for (int kind = 0; kind < 4; kind++) {
            x.sin(0, kind, 4);
        }
        DUE.is(19, "all", x.grind(0), 4);
        for (int kind = 0; kind < 4; kind++) {
            DUE.is(19, "LENS " + kind, x.of(0, 5 + kind), kind + 1);
        }
        DUE.is(19, "grind(1)", x.grind(1), -2);
        DUE.is(19, "grind(-1)", x.grind(-1), -2);
        x.force(Due.law(x, "grinds 7 - kind * 3; bars if sight = 3"));
        DUE.is(19, "by a LAW", x.grind(0), 3);
        DUE.is(19, "LENS 0", x.of(0, 5), 7);
        DUE.is(19, "LENS 1", x.of(0, 6), 4);
        DUE.is(19, "LENS 2", x.of(0, 7), 1);
        x.glass(0, 0);
        x.terms(3, 3);
        DUE.is(19, "BARRED", x.grind(0), -3);
        DUE.is(19, "of(0, 4)", x.of(0, 4), 0);
        x.glass(0, 4);
        DUE.is(19, "not BARRED by what it SEES", x.grind(0), 3);
    }

    private static void swap() {
        SinLenses x = Due.parish(3);
        x.glass(0, 123);
        x.glass(2, 4);
        x.sin(0, 0, 5);
        x.wanted(0, 2);
        DUE.is(20, "swap(2, 0)", x.swap(2, 0), 4);
        DUE.is(20, "of(2, 4)", x.of(2, 4), 3);
        DUE.is(20, "of(2, 7)", x.of(2, 7), 2);
        DUE.is(20, "of(0, 5)", x.of(0, 5), 3);
        DUE.is(20, "SINS stay", x.of(0, 0), 5);
        DUE.is(20, "what is WANTED stays", x.of(0, 11), 2);
        DUE.is(20, "with itself", x.swap(1, 1), -1);
        DUE.is(20, "nobody with itself", x.swap(-9, -9), -1);
        DUE.is(20, "swap(0, 3)", x.swap(0, 3), -2);
        DUE.is(20, "swap(-1, 0)", x.swap(-1, 0), -2);
    }

    private static void cloth() {
        SinLenses x = Due.parish(1);
        DUE.is(21, "none", x.cloth(0), -3);
        x.glass(0, 1111);
        DUE.is(21, "cloth(0)", x.cloth(0), 4);
        DUE.is(21, "of(0, 4)", x.of(0, 4), 0);
        DUE.is(21, "again", x.cloth(0), -3);
        DUE.is(21, "cloth(1)", x.cloth(1), -2);
        DUE.is(21, "cloth(-1)", x.cloth(-1), -2);
    }

    private static void pass() {
        SinLenses x = Due.parish(2);
        x.sin(0, 0, 5);
        DUE.is(22, "pass() without LAW", x.pass(), 1);
        DUE.is(22, "of(0, 0)", x.of(0, 0), 5);
        // Each is asked of what all were ahead: the sum of them, and the DAY.
        x.force(Due.law(x, "grows sins - 3; grows 0 - 8 if kind = 3; grows day if kind = 2"));
        x.sin(1, 3, 4);
        DUE.is(22, "pass()", x.pass(), 2);
        int[] first = {7, 2, 1, 0};
        int[] second = {1, 1, 1, 0};
        for (int kind = 0; kind < 4; kind++) {
            DUE.is(22, "of(0, " + kind + ")", x.of(0, kind), first[kind]);
            DUE.is(22, "of(1, " + kind + ")", x.of(1, kind), second[kind]);
        }
        x.pass();
        DUE.is(22, "8 at most", x.of(0, 0), 8);
        x.terms(0, 998);
        DUE.is(22, "the last DAY", x.pass(), 999);
        DUE.is(22, "behind it", x.pass(), -3);
        DUE.is(22, "count(12)", x.count(12), 999);
        DUE.is(22, "without people", new SinLenses().pass(), 1);
    }

    private static void undo() {
        SinLenses x = Due.under("grows 8", 2);
        DUE.is(23, "none", x.undo(), -3);
        x.sin(0, 0, 3);
        x.sin(1, 1, 7);
        x.grind(1);
        x.swap(0, 1);
        x.cloth(0);
        x.pass();
        x.cloth(0);
        x.sin(0, 0, 9);
        DUE.is(23, "REFUSED ones are not kept", x.count(4), 6);
        DUE.is(23, "pass()", x.undo(), 4);
        DUE.is(23, "the DAY", x.count(12), 0);
        DUE.is(23, "the SINS", x.count(1), 10);
        DUE.is(23, "cloth()", x.undo(), 3);
        DUE.is(23, "of(0, 5)", x.of(0, 5), 2);
        DUE.is(23, "swap()", x.undo(), 2);
        DUE.is(23, "of(0, 4)", x.of(0, 4), 0);
        DUE.is(23, "of(1, 4)", x.of(1, 4), 1);
        DUE.is(23, "grind()", x.undo(), 1);
        DUE.is(23, "of(1, 4)", x.of(1, 4), 0);
        DUE.is(23, "sin()", x.undo(), 0);
        DUE.is(23, "of(1, 1)", x.of(1, 1), 0);
        DUE.is(23, "count(4)", x.count(4), 1);
        x.sin(1, 2, 1);
        DUE.is(23, "the latest", x.undo(), 0);
        DUE.is(23, "of(1, 2)", x.of(1, 2), 0);
        DUE.is(23, "of(0, 0)", x.of(0, 0), 3);
        SinLenses y = Due.parish(1);
        for (int n = 0; n < 20; n++) {
            y.sin(0, n % 4, 1);
        }
        DUE.is(23, "sixteen are kept", y.count(4), 16);
        for (int n = 0; n < 16; n++) {
            DUE.is(23, "undo()", y.undo(), 0);
        }
        DUE.is(23, "the seventeenth", y.undo(), -3);
        DUE.is(23, "status()", y.status(), -3);
        DUE.is(23, "what is left", y.count(1), 4);
    }

    private static void lost(SinLenses x, String call, int want) {
        DUE.is(23, "undo() behind " + call, x.undo(), want);
        x.sin(0, 0, 1);
        x.sin(0, 0, -1);
    }

    private static void undoLost() {
        SinLenses x = Due.parish(1);
        x.sin(0, 0, 1);
        x.person();
        lost(x, "person()", -3);
        x.glass(0, 0);
        lost(x, "glass()", -3);
        x.terms(2, 0);
        lost(x, "terms()", -3);
        x.glass(0, 9);
        lost(x, "a REFUSED glass()", 0);
        x.terms(9, 0);
        lost(x, "a REFUSED terms()", 0);
        x.row();
        lost(x, "a REFUSED row()", 0);
        x.wanted(0, 3);
        lost(x, "wanted()", 0);
        DUE.is(23, "what is WANTED is not undone", x.of(0, 11), 3);
        x.saw(0, 3);
        lost(x, "saw()", 0);
        x.force(Due.law(x, "grows 1"));
        lost(x, "law(), force()", 0);
        DUE.is(23, "the LAW is not undone", x.count(11), 0);
        x.months(1, 1);
        x.image(0);
        lost(x, "months(), image()", 0);
        x.back(1);
        lost(x, "a REFUSED back()", 0);
        x.back(0);
        lost(x, "back()", -3);
        x.feed(0, 0, 0, 0, 0);
        x.row();
        lost(x, "row()", -3);
        DUE.is(23, "there is no room", x.person(), -5);
        lost(x, "a REFUSED person()", 0);
    }
}
