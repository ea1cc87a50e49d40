/** Promises 39 to 42: image, back, count, status. */
public final class KeepingTest {
    private static final Due DUE = new Due("KeepingTest");

    public static void main(String[] args) {
        images();
        laws();
        notKept();
        counts();
        statuses();
        refusals();
        DUE.end();
    }

    private static void images() {
        SinLenses x = Due.parish(2);
        DUE.is(39, "image(2)", x.image(2), -1);
        DUE.is(39, "image(-1)", x.image(-1), -1);
        DUE.is(40, "back(2)", x.back(2), -1);
        DUE.is(40, "back(-1)", x.back(-1), -1);
        DUE.is(40, "back(0)", x.back(0), -2);
        x.sin(0, 1, 3);
        x.glass(1, 12);
        x.wanted(1, 2);
        x.saw(1, 9);
        x.terms(0, 5);
        x.terms(1, 6);
        x.terms(2, 7);
        x.terms(3, 8);
        DUE.is(39, "image(0)", x.image(0), 0);
        DUE.is(40, "back(1)", x.back(1), -2);
        x.person();
        x.sin(0, 1, -3);
        x.sin(0, 2, 4);
        x.swap(0, 1);
        x.wanted(1, 0);
        x.wanted(0, 3);
        x.forget();
        x.saw(0, 1);
        x.saw(0, 2);
        for (int what = 0; what < 4; what++) {
            x.terms(what, 1);
        }
        DUE.is(39, "image(1)", x.image(1), 0);
        DUE.is(40, "back(0)", x.back(0), 0);
        int[] want = {2, 3, 1, 0, 0, 0};
        for (int what = 0; what < want.length; what++) {
            DUE.is(40, "count(" + what + ")", x.count(what), want[what]);
        }
        for (int what = 0; what < 4; what++) {
            DUE.is(40, "TERM " + what, x.count(12 + what), 5 + what);
        }
        DUE.is(40, "SINS", x.of(0, 1) * 10 + x.of(0, 2), 30);
        DUE.is(40, "GLASSES", x.of(0, 4) * 10 + x.of(1, 4), 2);
        DUE.is(40, "WANTED", x.of(0, 11) * 10 + x.of(1, 11), 2);
        x.terms(3, 9);
        x.glass(1, 0);
        DUE.is(40, "SEEN", x.scenes(0), 9);
        DUE.is(40, "back(1)", x.back(1), 0);
        DUE.is(40, "PEOPLE", x.count(0), 3);
        DUE.is(40, "SEEN", x.count(2), 2);
        DUE.is(40, "back(0), IMAGES stay", x.back(0), 0);
        DUE.is(40, "SCENE", x.count(15), 8);
        x.image(1);
        x.terms(3, 77);
        x.back(1);
        DUE.is(39, "kept anew", x.count(15), 8);
    }

    private static void laws() {
        SinLenses x = Due.under("does 1", 1);
        x.image(0);
        Due.law(x, "does 2");
        x.force(1);
        x.image(1);
        x.back(0);
        DUE.is(40, "LAWS", x.count(3), 1);
        DUE.is(40, "FORCE", x.count(11), 0);
        DUE.is(40, "another LAW of that number", Due.law(x, "does 3"), 1);
        x.force(1);
        DUE.is(40, "what that tells", x.of(0, 10), 3);
        x.back(1);
        DUE.is(40, "what the LAW that was kept tells", x.of(0, 10), 2);
        x.back(0);
        DUE.is(40, "what the first tells", x.of(0, 10), 1);
    }

    private static void notKept() {
        SinLenses x = Due.parish(2);
        x.image(0);
        Due.law(x, "does x");
        Due.orders(x, "pass; cloth 0");
        x.feed(0x09000000, 0, 0, 0, 0);
        x.end(4);
        x.row();
        Due.law(x, "does x");
        Due.write(x, "does 1");
        x.sin(0, 0, 1);
        x.back(0);
        DUE.is(40, "the TAPE", x.count(5), 6);
        DUE.is(40, "FAULT", x.fault(), 5);
        DUE.is(40, "SMEARS", x.smears(), 1);
        DUE.is(40, "where ORDERS stopped", x.stopped(), 1);
        DUE.is(40, "nothing can be undone", x.undo(), -3);
        DUE.is(41, "how many were REFUSED by -6", x.count(10), 2);
        DUE.is(41, "how many were REFUSED by -3", x.count(8), 2);
    }

    private static void counts() {
        SinLenses x = Due.parish(3);
        x.sin(0, 0, 3);
        x.sin(2, 3, 8);
        DUE.is(41, "PEOPLE", x.count(0), 3);
        DUE.is(41, "SINS", x.count(1), 11);
        DUE.is(41, "what can be undone", x.count(4), 2);
        x.feed(0, 0, 0, 0, 0);
        DUE.is(41, "bytes", x.count(5), 20);
        x.sin(0, 9, 0);
        x.image(5);
        x.cloth(7);
        x.undo();
        x.undo();
        x.undo();
        for (int n = 0; n < 9; n++) {
            x.saw(0, n);
        }
        x.law();
        int[] want = {2, 1, 1, 1, 1};
        for (int n = 0; n < 5; n++) {
            DUE.is(41, "count(" + (6 + n) + ")", x.count(6 + n), want[n]);
        }
        x.of(9, 9);
        x.asks(9, 9, 9);
        x.lens(9, 9);
        x.end(-1);
        x.cure(9, 9);
        x.scenes(-9);
        x.ask(9);
        x.mixed(99);
        x.fitted(9);
        x.come(9, 9, 9);
        x.idle(9, 9);
        x.alike(9);
        x.ground(9, 9);
        x.mildest(9);
        x.weaker(99, 99);
        x.drawn(9, 9);
        for (int n = 0; n < 5; n++) {
            DUE.is(41, "NONE is no refusal, count(" + (6 + n) + ")", x.count(6 + n), want[n]);
        }
        DUE.is(41, "count(16)", x.count(16), -1);
        DUE.is(41, "count(-1)", x.count(-1), -1);
        DUE.is(41, "count(the least)", x.count(Integer.MIN_VALUE), -1);
    }

    private static void status(SinLenses x, String call, int got, int want) {
        DUE.is(42, call, got, want);
        DUE.is(42, "status() behind " + call, x.status(), want < 0 ? want : 0);
        x.of(0, 0);
        x.forget();
        x.end(0);
        DUE.is(42, "status() behind calls that do not bear on it", x.status(), want < 0 ? want : 0);
    }

    /** Each call with each that it can be REFUSED by. */
    private static void refusals() {
        SinLenses x = Due.under("bars", 6);
        status(x, "person()", x.person(), -5);
        status(x, "glass(0, 9)", x.glass(0, 9), -1);
        status(x, "glass(6, 1)", x.glass(6, 1), -2);
        status(x, "wanted(0, 4)", x.wanted(0, 4), -1);
        status(x, "wanted(6, 1)", x.wanted(6, 1), -2);
        status(x, "terms(0, -1)", x.terms(0, -1), -1);
        status(x, "row()", x.row(), -6);
        status(x, "law()", Due.law(x, "1"), -6);
        status(x, "orders()", Due.orders(x, "1"), -6);
        status(x, "orders()", Due.orders(x, "grind 0"), -3);
        status(x, "force(1)", x.force(1), -2);
        status(x, "sin(0, 4, 1)", x.sin(0, 4, 1), -1);
        status(x, "sin(6, 0, 1)", x.sin(6, 0, 1), -2);
        status(x, "sin(0, 0, -1)", x.sin(0, 0, -1), -3);
        status(x, "grind(6)", x.grind(6), -2);
        status(x, "grind(0)", x.grind(0), -3);
        status(x, "swap(0, 0)", x.swap(0, 0), -1);
        status(x, "swap(0, 6)", x.swap(0, 6), -2);
        status(x, "cloth(6)", x.cloth(6), -2);
        status(x, "cloth(0)", x.cloth(0), -3);
        x.terms(0, 999);
        status(x, "pass()", x.pass(), -3);
        status(x, "undo()", x.undo(), -3);
        status(x, "saw(0, 256)", x.saw(0, 256), -1);
        status(x, "saw(6, 0)", x.saw(6, 0), -2);
        for (int n = 0; n < 8; n++) {
            x.saw(0, n);
        }
        DUE.is(42, "saw(0, 0)", x.saw(0, 0), -5);
        DUE.is(42, "status() behind saw(0, 0)", x.status(), -5);
        status(x, "months(0, 0)", x.months(0, 0), -1);
        status(x, "image(2)", x.image(2), -1);
        status(x, "back(2)", x.back(2), -1);
        status(x, "back(1)", x.back(1), -2);
        for (int n = 0; n < 5; n++) {
            Due.law(x, "bars");
        }
        status(x, "law()", x.law(), -5);
        int[] want = {9, 9, 6, 3, 3};
        for (int n = 0; n < 5; n++) {
            DUE.is(41, "count(" + (6 + n) + ")", x.count(6 + n), want[n]);
        }
        SinLenses nobody = new SinLenses();
        DUE.is(42, "months() of nobody", nobody.months(0, 1), -3);
        DUE.is(42, "status() behind it", nobody.status(), -3);
    }

    private static void statuses() {
        SinLenses x = new SinLenses();
        status(x, "person()", x.person(), 0);
        status(x, "glass(0, 9)", x.glass(0, 9), -1);
        status(x, "glass(0, 1)", x.glass(0, 1), 1);
        status(x, "wanted(1, 1)", x.wanted(1, 1), -2);
        status(x, "wanted(0, 1)", x.wanted(0, 1), 0);
        status(x, "terms(9, 9)", x.terms(9, 9), -1);
        status(x, "terms(0, 0)", x.terms(0, 0), 0);
        status(x, "row()", x.row(), -6);
        status(x, "law()", Due.law(x, "bars"), 0);
        status(x, "orders()", Due.orders(x, "cloth 0 times 2"), -3);
        status(x, "orders()", Due.orders(x, "pass"), 1);
        status(x, "force(1)", x.force(1), -2);
        DUE.is(42, "force(0)", x.force(0), -1);
        DUE.is(42, "status() behind force() that answers NONE", x.status(), 0);
        status(x, "grind(0)", x.grind(0), -3);
        status(x, "sin(0, 0, 1)", x.sin(0, 0, 1), 1);
        status(x, "swap(0, 0)", x.swap(0, 0), -1);
        status(x, "cloth(0)", x.cloth(0), 1);
        status(x, "back(0)", x.back(0), -2);
        status(x, "pass()", x.pass(), 2);
        status(x, "saw(1, 1)", x.saw(1, 1), -2);
        status(x, "undo()", x.undo(), 4);
        status(x, "months(-1, 1)", x.months(-1, 1), -1);
        status(x, "image(0)", x.image(0), 0);
        status(x, "law()", Due.law(x, ""), -6);
        status(x, "back(0)", x.back(0), 0);
        status(x, "undo()", x.undo(), -3);
        status(x, "saw(0, 1)", x.saw(0, 1), 1);
        status(x, "image(7)", x.image(7), -1);
        status(x, "months(1, 1)", x.months(1, 1) * 0, 0);
    }
}
