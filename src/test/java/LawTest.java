/** Promises 13, 15, 17, and the language of LAWS. */
public final class LawTest {
    private static final Due DUE = new Due("LawTest");

    public static void main(String[] args) {
        lawAndForce();
        faults();
        limits();
        words();
        sums();
        tests();
        clauses();
        DUE.end();
    }

    private static void lawAndForce() {
        SinLenses x = Due.parish(1);
        DUE.is(17, "force(0) without LAW", x.force(0), -2);
        DUE.is(17, "force(-1)", x.force(-1), -1);
        DUE.is(17, "status()", x.status(), 0);
        DUE.is(17, "force(-2)", x.force(-2), -2);
        for (int n = 0; n < 6; n++) {
            DUE.is(13, "law()", Due.law(x, "does " + n % 4), n);
            DUE.is(13, "the TAPE is empty", x.count(5), 0);
        }
        Due.orders(x, "x");
        Due.write(x, "does x");
        DUE.is(13, "law() without room", x.law(), -5);
        DUE.is(13, "the TAPE is empty", x.count(5), 0);
        DUE.is(15, "FAULT of that which was read last", x.fault(), 0);
        DUE.is(13, "law() without room and TAPE", x.law(), -5);
        DUE.is(17, "force(3)", x.force(3), -1);
        DUE.is(17, "what it DOES", x.of(0, 10), 3);
        DUE.is(17, "force(2)", x.force(2), 3);
        DUE.is(17, "what it DOES", x.of(0, 10), 2);
        DUE.is(17, "force(6)", x.force(6), -2);
        DUE.is(17, "force(-1)", x.force(-1), 2);
        DUE.is(17, "what it DOES", x.of(0, 10), 0);
        DUE.is(17, "count(11)", x.count(11), -1);
    }

    private static void fault(String text, int want) {
        SinLenses x = new SinLenses();
        DUE.is(13, "law() of " + text, Due.law(x, text), want == -1 ? 0 : -6);
        DUE.is(15, "fault() of " + text, x.fault(), want);
        DUE.is(13, "the TAPE is empty", x.count(5), 0);
        DUE.is(13, "LAWS behind " + text, x.count(3), want == -1 ? 1 : 0);
    }

    private static void faults() {
        fault("", 0);
        fault("   ", 3);
        fault("does 1", -1);
        fault("  does  1  ", -1);
        fault("does1", -1);
        fault("does 1;", 7);
        fault("does 1;  ", 9);
        fault("does 1;;does 1", 7);
        fault(";does 1", 0);
        fault("Does 1", 0);
        fault("doess 1", 0);
        fault("does\n1", 4);
        fault("does 1" + (char) 200, 6);
        fault("does 1 1", 7);
        fault("does 1 + ", 9);
        fault("does - 1", 5);
        fault("does (1)", 5);
        fault("does [1)", 7);
        fault("does [1 < 2]", 8);
        fault("does 1 < 2", 7);
        fault("does 1 if", 9);
        fault("does 1 if 1", 11);
        fault("does 1 if (1) = 1", 12);
        fault("does 1 if 1 < 2 < 3", 16);
        fault("does 1 if 1 = = 1", 14);
        fault("does 1 if not", 13);
        fault("does 1 if not 1 = 1 or", 22);
        fault("does 1 if (1 = 1 and)", 20);
        fault("does 1 if 1 = 1)", 15);
        fault("does 1 times 2", 7);
        fault("does 1000", -1);
        fault("does 0001000", -1);
        fault("does 1001", 5);
        fault("does 99999999999999999999", 5);
        fault("bars if 1 = 1 if 1 = 1", 14);
        fault("does done", 5);
        fault("sin 1 of 1", 0);
    }

    private static void limits() {
        fault(Due.row("bars", ";", 12), -1);
        fault(Due.row("bars", ";", 13), 60);
        fault(Due.row("bars", ";", 12) + "; x", 61);
        fault(Due.row("bars", ";", 12) + ";", 60);
        fault("does " + Due.row("1", "+", 50), -1);
        fault("does " + Due.row("1", "+", 51), 105);
        fault("does " + Due.row("1", "+", 25) + ";does " + Due.row("day", "+", 25), -1);
        fault("does " + Due.row("1", "+", 25) + ";does " + Due.row("day", "+", 26), 60 + 100);
        fault("does " + Due.row("[", "", 8) + 1 + Due.row("]", "", 8), -1);
        fault("does " + Due.row("[", "", 9) + 1 + Due.row("]", "", 9), 13);
        fault("bars if " + Due.row("(", "", 8) + "1=1" + Due.row(")", "", 8), -1);
        fault("bars if " + Due.row("(", "", 9) + "1=1" + Due.row(")", "", 9), 16);
        fault("bars if ((((([[[1]]]=1)))))", -1);
        fault("bars if ((((([[[[1]]]]=1)))))", 16);
        fault("bars if " + Due.row("([1]=1)", "and", 20), -1);
        fault("bars if " + Due.row("not", " ", 90) + " 1=1", -1);
        fault("bars" + Due.row(" ", "", 396), -1);
        fault("bars;" + Due.row(" ", "", 395), 400);
        fault(Due.row(";", "", 400), 0);
        fault("bars if " + Due.row("(", "", 392), 16);
        // Six PARTS each: the 51st is the third of the ninth.
        fault(Due.row("does [day]+1/[1+1] if ([1]=1)", ";", 8), -1);
        fault(Due.row("does [day]+1/[1+1] if ([1]=1)", ";", 9), 254);
    }

    /** What "does" SUM comes to under a LAW, 0 .. 3. */
    private static int does(String sum) {
        SinLenses x = Due.under("does " + sum, 3);
        return shown(x, 2);
    }

    private static int shown(SinLenses x, int person) {
        x.sin(person, 1, 5);
        x.sin(person, 2, 2);
        x.terms(0, 12);
        x.terms(2, 7);
        x.terms(3, 40);
        return x.of(person, 10);
    }

    private static void words() {
        int[] want = {2, 0, 0, 3, 3, 2, 3, 3, 3};
        String[] words = {"person", "kind", "sin", "sins", "sight", "lit", "first", "day", "mood"};
        for (int n = 0; n < words.length; n++) {
            DUE.is(13, "does " + words[n], does(words[n]), want[n]);
        }
        DUE.is(13, "kind is -1 there", does("kind + 2"), 1);
        DUE.is(13, "sin is -1 there", does("sin + 2"), 1);
        DUE.is(13, "sins", does("sins - 5"), 2);
        DUE.is(13, "sight", does("sight - 38"), 2);
        DUE.is(13, "lit", does("lit - 1"), 1);
        DUE.is(13, "first", does("first - 1"), 2);
        DUE.is(13, "day", does("day - 10"), 2);
        DUE.is(13, "mood", does("mood - 6"), 1);
        SinLenses dark = Due.under("does first - 6", 1);
        DUE.is(13, "first of none", dark.of(0, 10), 2);
        SinLenses low = Due.under("does 3 - first", 1);
        low.terms(3, 129);
        DUE.is(13, "first is 0", low.of(0, 10), 3);
        low.terms(3, 128);
        DUE.is(13, "first is 7", low.of(0, 10), 0);
        SinLenses high = Due.under("does first - 5", 1);
        high.terms(3, 128);
        DUE.is(13, "first is 7", high.of(0, 10), 2);
        SinLenses x = Due.under("grinds sight + lit + first + 9; grows person + kind * 2 + sin - sins", 2);
        x.terms(3, 255);
        x.sin(1, 3, 4);
        x.sin(1, 0, 1);
        DUE.is(13, "sight, lit, first are -1 for a SIN", x.asks(0, 0, 0), 6);
        DUE.is(13, "person, kind, sin, sins of a SIN", x.asks(1, 3, 1), 1 + 6 + 4 - 5);
    }

    private static void sums() {
        DUE.is(13, "* ahead of -", does("9 - 2 * 4"), 1);
        DUE.is(13, "from the left", does("9 - 4 - 3"), 2);
        DUE.is(13, "from the left", does("100 / 10 / 5"), 2);
        DUE.is(13, "brackets", does("9 - [4 - 3] * [10 - 3]"), 2);
        DUE.is(13, "/ cut towards 0", does("[0 - 7] / 2 + 5"), 2);
        DUE.is(13, "% what is left then", does("[0 - 7] % 2 + 3"), 2);
        DUE.is(13, "% by one below 0", does("7 % [0 - 4] - 1"), 2);
        // Without a CLAUSE that HOLDS two lit CELLS tell: 2.
        DUE.is(13, "/ by 0", does("1 / [day - 12]"), 2);
        DUE.is(13, "% by 0", does("1 % 0"), 2);
        DUE.is(13, "as far as it goes", does("1000 * 1000 * 1000 / 1000 / 1000 / 1000"), 1);
        DUE.is(13, "beyond", does("1000 * 1000 * 1000 + 1"), 2);
        DUE.is(13, "beyond on the way", does("1000 * 1000 * 1000 + 1 - 1000 * 1000 * 1000"), 2);
        DUE.is(13, "beyond on the way", does("1000 * 1000 * 1000 * 2 / 1000 / 1000 / 1000 / 2"), 2);
        DUE.is(13, "as far below", does("0 - 1000 * 1000 * 1000"), 0);
        DUE.is(13, "beyond below", does("0 - 1000 * 1000 * 1000 - 1"), 2);
        DUE.is(13, "far beyond", does(Due.row("1000", "*", 50)), 2);
    }

    /** 1, if the TEST is so; 0, if it is not; else -1, BROKEN: neither it nor its "not" HOLDS. */
    private static void test(String test, int want) {
        SinLenses x = Due.under("bars if " + test, 1);
        SinLenses y = Due.under("bars if not (" + test + ")", 1);
        int got = x.of(0, 12) == 1 ? 1 : y.of(0, 12) == 1 ? 0 : -1;
        DUE.is(13, test, got, want);
    }

    private static void tests() {
        test("1 < 2", 1);
        test("2 < 2", 0);
        test("3 > 2", 1);
        test("2 > 2", 0);
        test("2 = 2", 1);
        test("2 = 3", 0);
        test("1 = 1 or 1 = 1 and 1 = 2", 1);
        test("(1 = 1 or 1 = 1) and 1 = 2", 0);
        test("not 1 = 1 or 1 = 1", 1);
        test("not (1 = 1 or 1 = 1)", 0);
        test("not not not 1 = 2", 1);
        test("not 1 = 2 and 2 = 2", 1);
        test("1 / 0 = 1", -1);
        test("1 = 1 / 0", -1);
        test("1 / 0 = 1 or 1 = 1", -1);
        test("1 = 1 or 1 / 0 = 1", 1);
        test("1 = 2 or 1 / 0 = 1", -1);
        test("1 = 2 and 1 / 0 = 1", 0);
        test("1 = 1 and 1 / 0 = 1", -1);
        test("1 = 2 and 1 / 0 = 1 or 1 = 1", 1);
        test("1 = 1 or 1 / 0 = 1 and 1 = 1 or 1 % 0 = 1", 1);
        test("1 = 2 or 1 = 1 or 1 / 0 = 1", 1);
        test("1 = 1 and 1 = 2 and 1 / 0 = 1", 0);
        test("(1 = 1 or 1 / 0 = 1) and 1 = 1", 1);
    }

    private static void clauses() {
        SinLenses x = Due.under("grinds 3; grinds 5 if kind = 1; grinds 1 / sin if kind < 3", 1);
        x.sin(0, 2, 1);
        DUE.is(13, "the last that HOLDS is BROKEN", x.asks(0, 0, 0), 3);
        DUE.is(13, "the last but one", x.asks(0, 1, 0), 5);
        DUE.is(13, "the last", x.asks(0, 2, 0), 1);
        DUE.is(13, "the only one", x.asks(0, 3, 0), 3);
        SinLenses y = Due.under("bars if sins > 3;bars if 1 / 0 = 1;does 2 if sins > 3;grows 2", 1);
        DUE.is(13, "not BARRED", y.of(0, 12), 0);
        y.sin(0, 0, 4);
        DUE.is(13, "BARRED, though the last does not HOLD", y.of(0, 12), 1);
        DUE.is(13, "DOES", y.of(0, 10), 2);
        DUE.is(13, "no \"grinds\"", y.asks(0, 0, 0), 1);
        DUE.is(13, "grows", y.asks(0, 0, 1), 2);
        SinLenses z = Due.under("bars", 1);
        DUE.is(13, "BARRED always", z.of(0, 12), 1);
        SinLenses w = Due.under("does 0 - 1 if lit = 0; does 9 if lit = 8", 1);
        DUE.is(13, "the nearest DEED", w.of(0, 10), 0);
        w.terms(3, 255);
        DUE.is(13, "the nearest DEED", w.of(0, 10), 3);
        w.terms(3, 127);
        DUE.is(13, "lit % 4 without", w.of(0, 10), 3);
    }
}
