/** Promises 14 to 16: orders, fault, stopped. */
public final class OrdersTest {
    private static final Due DUE = new Due("OrdersTest");

    public static void main(String[] args) {
        runs();
        faults();
        words();
        conditions();
        whollyOrNot();
        DUE.end();
    }

    private static void runs() {
        SinLenses x = Due.parish(2);
        DUE.is(14, "orders()", Due.orders(x, "sin 1 of 2 times 5; grind 1; swap 0 with 1; cloth 0; pass times 3"), 11);
        DUE.is(14, "a SIN", x.of(1, 2), 5);
        DUE.is(14, "no GLASS", x.of(0, 4) + x.of(1, 4), 0);
        DUE.is(14, "the DAY", x.count(12), 3);
        DUE.is(14, "the TAPE is empty", x.count(5), 0);
        DUE.is(14, "what can be undone", x.count(4), 11);
        int[] undone = {4, 4, 4, 3, 2, 1, 0, 0, 0, 0, 0, -3};
        for (int which : undone) {
            DUE.is(14, "undo()", x.undo(), which);
        }
        DUE.is(14, "none run", Due.orders(x, "pass if 1 = 2"), 0);
        DUE.is(14, "status()", x.status(), 0);
        DUE.is(14, "twenty times", Due.orders(x, "pass times 20"), 20);
        DUE.is(14, "sixteen are kept", x.count(4), 16);
    }

    private static void fault(String text, int want) {
        SinLenses x = Due.parish(6);
        int told = Due.orders(x, text);
        DUE.is(14, "orders() of " + text, told == -6 ? 1 : 0, want == -1 ? 0 : 1);
        DUE.is(15, "fault() of " + text, x.fault(), want);
        DUE.is(14, "the TAPE is empty", x.count(5), 0);
    }

    private static void faults() {
        fault("", 0);
        fault("  ", 2);
        fault("pass", -1);
        fault("pass 1", 5);
        fault("pass;", 5);
        fault("passes", 0);
        fault("sin 1 of", 8);
        fault("sin 1 of 2 of 3", 11);
        fault("sin 1 with 2", 6);
        fault("swap 1 of 2", 7);
        fault("swap 1 with 2", -1);
        fault("grind 1 with 2", 8);
        fault("cloth", 5);
        fault("pass times", 10);
        fault("pass times 1", -1);
        fault("pass times 20", -1);
        fault("pass times 21", 11);
        fault("pass times 0", 11);
        fault("pass times day", 11);
        fault("pass times 2 times 2", 13);
        fault("pass if 1 = 1 times 2", 14);
        fault("pass times 2 if 1 = 1", -1);
        fault("grind sins", 10);
        fault("grind sins 5", -1);
        fault("grind sins 6", 11);
        fault("grind sins day", 11);
        fault("grind sin", 6);
        fault("grind mood", 6);
        fault("grinds 1", 0);
        fault("bars", 0);
        fault(Due.row("pass", ";", 12), -1);
        fault(Due.row("pass", ";", 13), 60);
        // P and TIMES are no PARTS.
        fault("grind " + Due.row("sins 0", "+", 50) + " times 3", -1);
        fault("grind " + Due.row("sins 0", "+", 51), 6 + 350);
        fault("grind " + Due.row("[", "", 9) + 1 + Due.row("]", "", 9), 14);
        SinLenses x = new SinLenses();
        Due.orders(x, "x");
        Due.orders(x, "pass");
        DUE.is(15, "fault() behind one without", x.fault(), -1);
    }

    private static void so(SinLenses x, String test, int want) {
        DUE.is(14, test, Due.orders(x, "pass if " + test), want);
        if (want > 0) {
            x.undo();
        }
    }

    private static void words() {
        SinLenses x = Due.under("does sins / 2", 3);
        x.terms(0, 7);
        x.terms(3, 40);
        x.sin(1, 3, 4);
        x.glass(1, 7);
        so(x, "day = 7", 1);
        so(x, "scene = 40", 1);
        so(x, "done = 0", 1);
        so(x, "latest = 0 - 1", 1);
        so(x, "sins 1 = 4", 1);
        so(x, "sins 2 = 0", 1);
        so(x, "sight 1 = 215", 1);
        so(x, "sight 0 = 40", 1);
        so(x, "does 1 = 2", 1);
        so(x, "does 0 = 0", 1);
        so(x, "sins 3 = 0 - 1 and sight 4 = 0 - 1 and does 5 = 0 - 1", 1);
        so(x, "sins 1 = 5", 0);
        SinLenses fresh = Due.parish(6);
        fresh.terms(3, 7);
        fresh.sin(5, 0, 8);
        DUE.is(14, "does, sight, sins of the last", Due.orders(fresh, "pass if does 5 = 3 and sight 5 = 7 and sins 5 = 8"), 1);
        SinLenses y = Due.parish(2);
        DUE.is(14, "done counts what was run", Due.orders(y, "pass times 2; pass times 3 if day = 9; sin 0 of done if done = 2"), 3);
        DUE.is(14, "its KIND was done", y.of(0, 2), 1);
        DUE.is(14, "latest", Due.orders(y, "sin 1 of 0 times 4; sin 1 of 3 times 4; grind 1; grind 0 if latest = 2; pass if latest = 0"), 11);
        DUE.is(14, "done and latest start anew", Due.orders(y, "pass if done = 0 and latest = 0 - 1"), 1);
        DUE.is(14, "SUMS", Due.orders(y, "sin 2 - 1 of [3 + day] % 3"), 1);
    }

    private static void conditions() {
        SinLenses x = Due.parish(1);
        DUE.is(14, "asked each time", Due.orders(x, "pass times 20 if day < 5"), 5);
        DUE.is(14, "BROKEN is not run", Due.orders(x, "pass if 1 / 0 = 1; pass"), 1);
        DUE.is(14, "its SUMS are not asked then", Due.orders(x, "grind 1 / 0 if day = 0; grind 9 if 1 = 2"), 0);
        DUE.is(14, "settled ahead of the BROKEN one", Due.orders(x, "pass if 1 = 1 or 1 / 0 = 1"), 1);
    }

    private static void stops(String text, int want) {
        SinLenses x = Due.under("bars if person = 1", 2);
        for (int n = 0; n < 16; n++) {
            x.sin(0, 0, n % 2 == 0 ? 8 : -8);
        }
        x.sin(0, 1, 3);
        x.grind(0);
        DUE.is(14, text, Due.orders(x, text), -3);
        DUE.is(16, "stopped() of " + text, x.stopped(), want);
        DUE.is(14, "status()", x.status(), -3);
        DUE.is(14, "REFUSED once", x.count(8), 1);
        DUE.is(14, "not by what stopped it", x.count(6) + x.count(7), 0);
        DUE.is(15, "no FAULT", x.fault(), -1);
        DUE.is(14, "the SINS are as they were", x.count(1), 3);
        DUE.is(14, "the DAY is as it was", x.count(12), 0);
        DUE.is(14, "what can be undone is as it was", x.count(4), 16);
        DUE.is(14, "the latest", x.undo(), 1);
        DUE.is(14, "the latest but one", x.undo(), 0);
        for (int n = 0; n < 14; n++) {
            DUE.is(14, "those ahead", x.undo(), 0);
        }
        DUE.is(14, "no more", x.undo(), -3);
        DUE.is(14, "the oldest that was kept is undone", x.of(0, 0), 0);
    }

    private static void whollyOrNot() {
        String many = "pass times 20; sin 1 of 1 times 8; ";
        stops("sin 0 of 4", 0);
        stops("sin 2 of 0", 0);
        stops(many + "sin 1 of 1", 2);
        stops(many + "grind 1", 2);
        stops(many + "grind 2", 2);
        stops(many + "swap 1 with 1", 2);
        stops(many + "swap 1 with 2", 2);
        stops(many + "cloth 1", 2);
        stops(many + "cloth 0 - 1", 2);
        stops(many + "grind 1 / 0", 2);
        stops(many + "sin 0 of 1 % 0", 2);
        stops(many + "sin 1000 * 1000 * 1000 * 2 of 0", 2);
        SinLenses x = Due.parish(1);
        x.terms(0, 990);
        DUE.is(14, "no DAY behind 999", Due.orders(x, "sin 0 of 0; pass times 10"), -3);
        DUE.is(16, "stopped()", x.stopped(), 1);
        DUE.is(14, "the SIN is as it was", x.of(0, 0), 0);
        DUE.is(16, "a FAULT", Due.orders(x, "pass pass"), -6);
        DUE.is(16, "stopped() behind a FAULT", x.stopped(), -1);
        Due.orders(x, "grind 5");
        Due.orders(x, "pass");
        DUE.is(16, "stopped() behind one that could be", x.stopped(), -1);
    }
}
