/** Promises 1 to 23, each sentence that names an edge: a new object, what changes a parish, TEXTS, what is undone. */
public final class PromisesToUndoTest {
    private static final Due DUE = new Due("PromisesToUndoTest");

    public static void main(String[] args) {
        newObject();
        person();
        of();
        ofLenses();
        asks();
        glass();
        wanted();
        lens();
        terms();
        feed();
        end();
        row();
        smears();
        lawWithoutRoom();
        lawOfBlanks();
        orders();
        fault();
        stopped();
        force();
        sin();
        grind();
        swap();
        cloth();
        pass();
        undo();
        undoOfAllPeople();
        undoKeepsSixteen();
        nothingAhead();
        DUE.end();
    }

    private static void newObject() {
        DUE.says("A parish without people.");
        SinLenses x = new SinLenses();
        DUE.is("count(0)", x.count(0), 0);
        DUE.is("count(11)", x.count(11), SinLenses.NONE);
        for (int what = 1; what < 16; what++) {
            DUE.is("count(" + what + ")", x.count(what), what == 11 ? -1 : what == 13 ? 1 : 0);
        }
        for (int person = 0; person < 6; person++) {
            DUE.is("of(" + person + ", 0)", x.of(person, 0), -1);
        }
        SinLenses other = new SinLenses();
        x.person();
        x.terms(3, 9);
        DUE.is("another object is another parish", other.count(0) + other.count(15), 0);
    }

    private static void person() {
        DUE.says("A PERSON without SINS: the number. -5.");
        SinLenses x = new SinLenses();
        for (int n = 0; n < 6; n++) {
            DUE.is("the number", x.person(), n);
            DUE.is("without SINS", x.of(n, 0) + x.of(n, 1) + x.of(n, 2) + x.of(n, 3), 0);
            x.sin(n, 1, 8);
        }
        DUE.is("the seventh", x.person(), -5);
        DUE.is("six", x.count(0), 6);
        DUE.is("all as they were", x.count(1), 48);
    }

    private static void of() {
        DUE.says("Of a PERSON the SIN of KIND k 0 .. 3 (what k), .. whether BARRED (12: 1, 0). NONE.");
        SinLenses x = Due.parish(1);
        DUE.is("of(0, 0)", x.of(0, 0), 0);
        DUE.is("of(0, -1)", x.of(0, -1), -1);
        DUE.is("of(0, 12)", x.of(0, 12), 0);
        DUE.is("of(0, 13)", x.of(0, 13), -1);
        DUE.is("of(0, the most)", x.of(0, Integer.MAX_VALUE), -1);
        DUE.is("of(0, the least)", x.of(0, Integer.MIN_VALUE), -1);
        for (int what = 0; what <= 12; what++) {
            DUE.is("of(1, " + what + ")", x.of(1, what), -1);
            for (int person : Due.NOBODY) {
                DUE.is("of(" + person + ", " + what + ")", x.of(person, what), -1);
            }
        }
        DUE.is("no refusal", x.status() + x.count(6) + x.count(7), 0);
    }

    private static void ofLenses() {
        DUE.says("how many LENSES (4), the LENS 0 .. 3 of the GLASS (5 + it; NONE: not so many)");
        int[] glasses = {0, 8, 87, 876, 8765};
        for (int lenses = 0; lenses <= 4; lenses++) {
            SinLenses x = Due.parish(1);
            x.glass(0, glasses[lenses]);
            DUE.is("how many", x.of(0, 4), lenses);
            for (int i = 0; i < 4; i++) {
                DUE.is("LENS " + i + " of " + lenses, x.of(0, 5 + i), i < lenses ? 7 - i : -1);
            }
        }
    }

    private static void asks() {
        DUE.says("Of a PERSON and a KIND the LENS to which its SIN is GROUND (what 0), by how much that GROWS (1). NOTHING.");
        SinLenses x = Due.under("grinds 7; grows 0 - 1", 1);
        for (int kind = 0; kind < 4; kind++) {
            DUE.is("the LENS", x.asks(0, kind, 0), 7);
            DUE.is("below 0", x.asks(0, kind, 1), -1);
        }
        DUE.is("asks(0, 4, 0)", x.asks(0, 4, 0), SinLenses.NOTHING);
        DUE.is("asks(0, -1, 1)", x.asks(0, -1, 1), -100);
        DUE.is("asks(0, the most, 1)", x.asks(0, Integer.MAX_VALUE, 1), -100);
        DUE.is("asks(0, 0, 2)", x.asks(0, 0, 2), -100);
        DUE.is("asks(0, 0, -1)", x.asks(0, 0, -1), -100);
        DUE.is("asks(1, 0, 0)", x.asks(1, 0, 0), -100);
        for (int person : Due.NOBODY) {
            DUE.is("asks(" + person + ", 0, 1)", x.asks(person, 0, 1), -100);
        }
    }

    private static void glass() {
        DUE.says("its LENSES in order as a number, each as a digit one more than it (1 .. 8), the first one the highest (0: none), four at most: how many. -1 (other digits, too); -2.");
        SinLenses x = Due.parish(1);
        for (int number = -20; number < 12000; number++) {
            if (number % 100 == 0) {
                x = Due.parish(1);
            }
            String digits = Integer.toString(number);
            boolean can = number == 0 || digits.matches("[1-8]{1,4}");
            DUE.is("glass(0, " + number + ")", x.glass(0, number), can ? number == 0 ? 0 : digits.length() : -1);
            if (can && number > 0) {
                DUE.is("its first LENS", x.of(0, 5), digits.charAt(0) - '1');
                DUE.is("its last LENS", x.of(0, 4 + digits.length()), digits.charAt(digits.length() - 1) - '1');
            }
        }
        DUE.is("the most", x.glass(0, Integer.MAX_VALUE), -1);
        DUE.is("the least", x.glass(0, Integer.MIN_VALUE), -1);
        DUE.is("nobody", x.glass(1, 8), -2);
        DUE.is("nobody, other digits", x.glass(1, 9), -1);
        x.glass(0, 0);
        DUE.is("none", x.of(0, 4), 0);
    }

    private static void wanted() {
        DUE.says("A DEED is WANTED of a PERSON: which was. -1; -2.");
        SinLenses x = Due.parish(2);
        for (int deed = 0; deed <= 3; deed++) {
            DUE.is("which was", x.wanted(1, deed), Math.max(0, deed - 1));
        }
        DUE.is("wanted(1, 4)", x.wanted(1, 4), -1);
        DUE.is("wanted(1, -1)", x.wanted(1, -1), -1);
        DUE.is("wanted(2, 0)", x.wanted(2, 0), -2);
        DUE.is("it stays", x.of(1, 11), 3);
        DUE.is("another's", x.of(0, 11), 0);
    }

    private static void lens() {
        DUE.says("What a LENS makes of a number. NONE.");
        SinLenses x = new SinLenses();
        DUE.is("lens(0, 255)", x.lens(0, 255), 255);
        DUE.is("lens(7, 255)", x.lens(7, 255), 127);
        DUE.is("lens(8, 255)", x.lens(8, 255), -1);
        DUE.is("lens(-1, 255)", x.lens(-1, 255), -1);
        DUE.is("lens(6, 256)", x.lens(6, 256), -1);
        DUE.is("lens(6, -1)", x.lens(6, -1), -1);
    }

    private static void terms() {
        DUE.says("A TERM: what it was. -1.");
        SinLenses x = new SinLenses();
        DUE.is("terms(-1, 0)", x.terms(-1, 0), -1);
        DUE.is("terms(4, 0)", x.terms(4, 0), -1);
        DUE.is("terms(the most, 0)", x.terms(Integer.MAX_VALUE, 0), -1);
        DUE.is("terms(the least, 0)", x.terms(Integer.MIN_VALUE, 0), -1);
        DUE.is("terms(1, 10)", x.terms(1, 10), 1);
        DUE.is("terms(1, 10) again", x.terms(1, 10), 10);
        x.terms(0, 5);
        x.pass();
        DUE.is("what it was by a DAY", x.terms(0, 0), 6);
    }

    private static void feed() {
        DUE.says("Twenty bytes come behind the TAPE, four of each number, the highest first: how many it has. NONE, if there would be more than 400.");
        SinLenses x = new SinLenses();
        // "pass", five times, the second TEXT behind the first.
        DUE.is("feed", x.feed(0x70617373, 0x3b706173, 0x733b7061, 0x73733b70, 0x6173733b), 20);
        DUE.is("feed behind it", x.feed(0x70617373, 0x20202020, 0x20202020, 0x20202020, 0x20202020), 40);
        DUE.is("orders()", x.orders(), 5);
        for (int n = 1; n <= 20; n++) {
            DUE.is("feed", x.feed(n, n, n, n, n), 20 * n);
        }
        DUE.is("to 420", x.feed(0, 0, 0, 0, 0), -1);
        DUE.is("nothing came", x.count(5), 400);
        x.end(381);
        DUE.is("to 401", x.feed(0, 0, 0, 0, 0), -1);
        DUE.is("nothing came", x.count(5), 381);
        x.end(380);
        DUE.is("to 400", x.feed(0, 0, 0, 0, 0), 400);
    }

    private static void end() {
        DUE.says("The TAPE has its first n bytes alone: n. NONE, if it has not so many, or n is below 0.");
        SinLenses x = new SinLenses();
        DUE.is("end(0) of none", x.end(0), 0);
        DUE.is("end(1) of none", x.end(1), -1);
        x.feed(0x08000000, 0x01000000, 0, 0, 0);
        DUE.is("all", x.end(20), 20);
        DUE.is("one more", x.end(21), -1);
        DUE.is("below 0", x.end(-1), -1);
        DUE.is("far below", x.end(Integer.MIN_VALUE), -1);
        DUE.is("far more", x.end(Integer.MAX_VALUE), -1);
        DUE.is("they stay", x.count(5), 20);
        DUE.is("the first eight", x.end(8), 8);
        DUE.is("nine of eight", x.end(9), -1);
        DUE.is("the first are left", x.row() * 100 + x.of(0, 0) * 10 + x.of(1, 0), 281);
        x.feed(1, 1, 1, 1, 1);
        DUE.is("none", x.end(0), 0);
        DUE.is("none is left", x.row(), -6);
    }

    private static void row() {
        DUE.says("A ROW, the TAPE is empty then: how many PEOPLE came. -6 the TAPE is empty.");
        SinLenses x = new SinLenses();
        DUE.is("no TAPE", x.row(), -6);
        x.feed(-1, -1, -1, -1, -1);
        DUE.is("none came", x.row(), 0);
        DUE.is("the TAPE is empty", x.count(5), 0);
        DUE.is("row() again", x.row(), -6);
        x.feed(0, -1, 0, -1, 0);
        DUE.is("three came", x.row(), 3);
        x.feed(0, 0, 0, 0, 0);
        DUE.is("three more came", x.row(), 3);
        x.feed(0, 0, 0, 0, 0);
        DUE.is("no room is no refusal", x.row() * 10 + x.status(), 0);
    }

    private static void smears() {
        DUE.says("How many SMEARS the latest row() had that was not REFUSED (0 ahead of any).");
        SinLenses x = new SinLenses();
        DUE.is("ahead of any", x.smears(), 0);
        x.row();
        DUE.is("behind a REFUSED one", x.smears(), 0);
        x.feed(-1, -1, 0, 0, 0);
        x.row();
        DUE.is("two", x.smears(), 2);
        x.row();
        DUE.is("behind a REFUSED one", x.smears(), 2);
        x.feed(0, 0, 0, 0, 0);
        x.end(8);
        x.row();
        DUE.is("none of the latest", x.smears(), 0);
    }

    private static void lawWithoutRoom() {
        DUE.says("The TAPE, which is empty then, becomes a LAW: its number. -5 (ahead of reading it; the TAPE is empty then, too)");
        SinLenses x = new SinLenses();
        for (int law = 0; law < 6; law++) {
            DUE.is("its number", Due.law(x, "bars"), law);
            DUE.is("the TAPE is empty", x.count(5), 0);
        }
        Due.orders(x, "pass x");
        Due.write(x, "bars x");
        DUE.is("no room", x.law(), -5);
        DUE.is("the TAPE is empty, too", x.count(5), 0);
        DUE.is("it was not read", x.fault(), 5);
        DUE.is("no room for what is empty", x.law(), -5);
        DUE.is("six", x.count(3), 6);
        DUE.is("how many had no room", x.count(9), 2);
        DUE.is("none is no TEXT", x.count(10), 1);
    }

    private static void lawOfBlanks() {
        DUE.says("-6 (blanks alone: FAULT at the end)");
        SinLenses x = new SinLenses();
        for (int blanks : new int[] {0, 1, 7, 20, 399, 400}) {
            DUE.is("law() of " + blanks + " blanks", Due.law(x, Due.row(" ", "", blanks)), -6);
            DUE.is("its FAULT", x.fault(), blanks);
            DUE.is("the TAPE is empty", x.count(5), 0);
            DUE.is("orders() of " + blanks + " blanks", Due.orders(x, Due.row(" ", "", blanks)), -6);
            DUE.is("its FAULT", x.fault(), blanks);
            DUE.is("the TAPE is empty", x.count(5), 0);
        }
        DUE.is("no LAW", x.count(3), 0);
        DUE.is("a LAW of one that has a FAULT", Due.law(x, "does 1 x"), -6);
        DUE.is("no LAW", x.count(3), 0);
        DUE.is("the TAPE is empty", x.count(5), 0);
        DUE.is("the number is not used up", Due.law(x, "does 1"), 0);
    }

    private static void orders() {
        DUE.says("ORDERS, the TAPE is empty then: how many were run. -3 one can't be; -6 (as for law()).");
        SinLenses x = Due.parish(1);
        DUE.is("none run", Due.orders(x, "pass if 1 = 2"), 0);
        DUE.is("status()", x.status(), 0);
        DUE.is("the most", Due.orders(x, Due.row("pass times 20", ";", 12)), 240);
        DUE.is("the TAPE is empty", x.count(5), 0);
        DUE.is("one can't be", Due.orders(x, "pass; cloth 0"), -3);
        DUE.is("the TAPE is empty", x.count(5), 0);
        DUE.is("a FAULT in the last CLAUSE", Due.orders(x, "pass; pass; x"), -6);
        DUE.is("nothing was run", x.count(12), 240);
        DUE.is("the TAPE is empty", x.count(5), 0);
        DUE.is("no TAPE", x.orders(), -6);
        DUE.is("its FAULT", x.fault(), 0);
    }

    private static void fault() {
        DUE.says("FAULT of the latest law(), orders() that read a TEXT: its place; NONE without.");
        SinLenses x = Due.parish(1);
        DUE.is("ahead of any", x.fault(), -1);
        Due.law(x, "does x");
        DUE.is("of a LAW", x.fault(), 5);
        Due.orders(x, "pass x");
        DUE.is("of ORDERS", x.fault(), 5);
        Due.orders(x, "x");
        DUE.is("at the first byte", x.fault(), 0);
        Due.orders(x, "cloth 0");
        DUE.is("ORDERS that can't be have none", x.fault(), -1);
        Due.law(x, "x");
        Due.law(x, "bars");
        DUE.is("behind a LAW without", x.fault(), -1);
        Due.law(x, Due.row(" ", "", 399) + "x");
        DUE.is("at the last byte", x.fault(), 399);
        x.row();
        x.feed(0, 0, 0, 0, 0);
        x.row();
        DUE.is("row() reads no TEXT", x.fault(), 399);
        Due.orders(x, "pass");
        DUE.is("behind ORDERS without", x.fault(), -1);
    }

    private static void stopped() {
        DUE.says("Which CLAUSE of the latest orders() could not be. NONE.");
        SinLenses x = Due.parish(1);
        DUE.is("ahead of any", x.stopped(), -1);
        Due.orders(x, "cloth 0");
        DUE.is("the first", x.stopped(), 0);
        Due.orders(x, Due.row("pass", ";", 11) + ";cloth 0");
        DUE.is("the last of twelve", x.stopped(), 11);
        Due.law(x, "x");
        DUE.is("law() does not bear on it", x.stopped(), 11);
        x.cloth(0);
        DUE.is("nor does cloth()", x.stopped(), 11);
        Due.orders(x, "pass if 1 / 0 = 1");
        DUE.is("one that could be", x.stopped(), -1);
        Due.orders(x, "cloth 0");
        Due.orders(x, "cloth");
        DUE.is("one that was not run", x.stopped(), -1);
    }

    private static void force() {
        DUE.says("A LAW is in FORCE (NONE: none): which was. -2.");
        SinLenses x = Due.parish(1);
        DUE.is("none, while there is none", x.force(-1), -1);
        DUE.is("it is not REFUSED", x.status(), 0);
        DUE.is("force(0)", x.force(0), -2);
        for (int law = 0; law < 6; law++) {
            Due.law(x, "bars");
            DUE.is("which was", x.force(law), law - 1);
            DUE.is("it is not REFUSED", x.status(), 0);
            DUE.is("no such LAW", x.force(law + 1), -2);
        }
        DUE.is("the same", x.force(5), 5);
        DUE.is("force(-2)", x.force(-2), -2);
        DUE.is("it stays", x.count(11), 5);
        DUE.is("none", x.force(-1), 5);
        DUE.is("none is in FORCE", x.of(0, 12), 0);
    }

    private static void sin() {
        DUE.says("A SIN by -8 .. 8: how much it is then. -1 (no KIND, too); -2; -3 beyond 0 .. 8.");
        SinLenses x = Due.parish(1);
        DUE.is("by 8", x.sin(0, 0, 8), 8);
        DUE.is("by 1 beyond", x.sin(0, 0, 1), -3);
        DUE.is("by 8 beyond", x.sin(0, 0, 8), -3);
        DUE.is("by 0", x.sin(0, 0, 0), 8);
        DUE.is("by -8", x.sin(0, 0, -8), 0);
        DUE.is("by 0", x.sin(0, 0, 0), 0);
        DUE.is("by -1 below", x.sin(0, 0, -1), -3);
        DUE.is("by 9", x.sin(0, 0, 9), -1);
        DUE.is("by -9", x.sin(0, 0, -9), -1);
        DUE.is("by the most", x.sin(0, 0, Integer.MAX_VALUE), -1);
        DUE.is("by the least", x.sin(0, 0, Integer.MIN_VALUE), -1);
        DUE.is("KIND 4", x.sin(0, 4, 0), -1);
        DUE.is("KIND -1", x.sin(0, -1, 0), -1);
        DUE.is("KIND the most", x.sin(0, Integer.MAX_VALUE, 0), -1);
        DUE.is("nobody", x.sin(1, 3, 0), -2);
        DUE.is("by 0 can be undone, too", x.count(4), 4);
    }

    private static void grind() {
        DUE.says("To GRIND: how many LENSES. -2; -3.");
        SinLenses x = Due.under("bars if person = 2", 3);
        for (int kind = 0; kind < 4; kind++) {
            x.sin(0, kind, 8);
            x.sin(1, kind, 3);
            x.sin(2, kind, 8);
        }
        x.glass(1, 8888);
        DUE.is("four", x.grind(0), 4);
        DUE.is("none", x.grind(1), 0);
        DUE.is("none is left", x.of(1, 4), 0);
        DUE.is("BARRED", x.grind(2), -3);
        DUE.is("nobody", x.grind(3), -2);
    }

    private static void swap() {
        DUE.says("To SWAP: how many LENSES both have together. -1 (with itself); -2.");
        SinLenses x = Due.parish(2);
        DUE.is("none", x.swap(0, 1), 0);
        x.glass(0, 1111);
        DUE.is("four", x.swap(0, 1), 4);
        x.glass(0, 222);
        DUE.is("seven", x.swap(1, 0), 7);
        DUE.is("with itself", x.swap(1, 1), -1);
        DUE.is("nobody with itself", x.swap(2, 2), -1);
        DUE.is("with nobody", x.swap(1, 2), -2);
        DUE.is("nobody with one", x.swap(-1, 1), -2);
        DUE.is("nobody with nobody", x.swap(2, 3), -2);
    }

    private static void cloth() {
        DUE.says("A CLOTH: how many LENSES there were. -2; -3 none.");
        SinLenses x = Due.parish(1);
        DUE.is("none", x.cloth(0), -3);
        int[] glasses = {1, 11, 111, 1111};
        for (int n = 0; n < 4; n++) {
            x.glass(0, glasses[n]);
            DUE.is("how many", x.cloth(0), n + 1);
            DUE.is("none", x.cloth(0), -3);
        }
        DUE.is("nobody", x.cloth(1), -2);
    }

    private static void pass() {
        DUE.says("A DAY: its number. -3.");
        SinLenses x = new SinLenses();
        DUE.is("the first, of nobody", x.pass(), 1);
        DUE.is("the second", x.pass(), 2);
        x.terms(0, 998);
        DUE.is("the last", x.pass(), 999);
        DUE.is("none behind it", x.pass(), -3);
        x.undo();
        DUE.is("the last again", x.pass(), 999);
    }

    private static void undo() {
        DUE.says("The latest sin(), grind(), swap(), cloth(), pass() (by ORDERS, too ..) is undone: 0 .. 4.");
        SinLenses x = Due.under("grows 3", 2);
        x.glass(1, 76);
        Due.Call[] deeds = {y -> y.sin(0, 3, 7), y -> y.grind(0), y -> y.swap(0, 1), y -> y.cloth(0), y -> y.pass()};
        String[] shapes = new String[6];
        for (int n = 0; n < 5; n++) {
            shapes[n] = Due.shape(x);
            DUE.is("deed " + n + " can be", deeds[n].on(x) >= 0 ? 1 : 0, 1);
            DUE.is("how many can be undone", x.count(4), n + 1);
        }
        for (int n = 4; n >= 0; n--) {
            DUE.is("undo()", x.undo(), n);
            DUE.is("as it was ahead of deed " + n, Due.shape(x).equals(shapes[n]) ? 1 : 0, 1);
        }
        DUE.is("none", x.undo(), -3);
        SinLenses six = Due.parish(6);
        six.glass(5, 4321);
        six.sin(5, 3, 8);
        six.grind(5);
        six.swap(4, 5);
        six.cloth(4);
        six.undo();
        DUE.is("the GLASS of 4", six.of(4, 5), 4);
        six.undo();
        six.undo();
        DUE.is("the GLASS of 5", six.of(5, 4) * 10 + six.of(5, 8), 40);
        six.undo();
        DUE.is("the SIN of 5", six.of(5, 3), 0);
        SinLenses z = Due.under("grows 3", 2);
        z.glass(1, 76);
        String ahead = Due.shape(z);
        DUE.is("by ORDERS, too", Due.orders(z, "sin 0 of 3; grind 0; swap 0 with 1; cloth 0; pass"), 5);
        for (int n = 4; n >= 0; n--) {
            DUE.is("undo()", z.undo(), n);
        }
        DUE.is("as it was ahead of them", Due.shape(z).equals(ahead) ? 1 : 0, 1);
        DUE.is("none", z.undo(), -3);
    }

    /** With no SIN at 0 and no GLASS empty, so that nothing that is undone is as in a new parish. */
    private static void undoOfAllPeople() {
        Due.Call[] deeds = {x -> x.sin(5, 3, -1), x -> x.cloth(5), x -> x.pass()};
        int[] which = {0, 3, 4};
        for (int n = 0; n < 3; n++) {
            SinLenses x = Due.under("grows 1 + person - kind", 6);
            for (int person = 0; person < 6; person++) {
                x.glass(person, 1111 * (person + 2));
            }
            for (int sin = 0; sin < 24; sin++) {
                x.sin(sin / 4, sin % 4, 1 + sin % 7);
            }
            String ahead = Due.shape(x);
            DUE.is("deed " + n + " can be", deeds[n].on(x) >= 0 ? 1 : 0, 1);
            DUE.is("undo()", x.undo(), which[n]);
            DUE.is("as it was ahead of deed " + n, Due.shape(x).equals(ahead) ? 1 : 0, 1);
        }
    }

    private static void undoKeepsSixteen() {
        DUE.says("16 are kept");
        for (int deeds : new int[] {15, 16, 17, 33}) {
            SinLenses x = Due.parish(6);
            for (int n = 0; n < deeds; n++) {
                x.sin(n % 6, n / 6 % 4, 1);
            }
            int kept = Math.min(deeds, 16);
            DUE.is("kept of " + deeds, x.count(4), kept);
            for (int n = 0; n < kept; n++) {
                DUE.is("undo() " + n, x.undo(), 0);
            }
            DUE.is("no more", x.undo(), -3);
            DUE.is("what is left of " + deeds, x.count(1), deeds - kept);
        }
        SinLenses y = new SinLenses();
        DUE.is("by ORDERS", Due.orders(y, "pass times 17"), 17);
        DUE.is("kept", y.count(4), 16);
        for (int n = 0; n < 16; n++) {
            y.undo();
        }
        DUE.is("the DAY", y.count(12), 1);
        // Undone and done anew, round the sixteen places more than once.
        SinLenses z = new SinLenses();
        for (int n = 0; n < 40; n++) {
            z.pass();
            z.pass();
            DUE.is("the latest", z.undo(), 4);
            DUE.is("the DAY", z.count(12), n + 1);
        }
        DUE.is("sixteen, of which one is undone", z.count(4), 15);
    }

    private static void lost(String call, Due.Call done, boolean isLost) {
        SinLenses x = Due.parish(2);
        x.sin(0, 0, 1);
        done.on(x);
        DUE.is("how many can be undone behind " + call, x.count(4), isLost ? 0 : 1);
        DUE.is("undo() behind " + call, x.undo(), isLost ? -3 : 0);
        DUE.is("the SIN behind " + call, x.of(0, 0), isLost ? 1 : 0);
    }

    private static void nothingAhead() {
        DUE.says("-3 there is none (nothing that was ahead of a person(), glass(), terms(), row() that was not REFUSED can be undone)");
        DUE.is("none at all", new SinLenses().undo(), -3);
        lost("person()", x -> x.person(), true);
        lost("glass()", x -> x.glass(1, 0), true);
        lost("terms()", x -> x.terms(3, 0), true);
        lost("row()", x -> x.feed(-1, -1, -1, -1, -1) + x.row(), true);
        lost("a REFUSED glass()", x -> x.glass(1, 9), false);
        lost("glass() of nobody", x -> x.glass(2, 1), false);
        lost("a REFUSED terms()", x -> x.terms(3, 256), false);
        lost("a REFUSED row()", x -> x.row(), false);
        lost("a REFUSED sin()", x -> x.sin(0, 0, 8), false);
        lost("wanted()", x -> x.wanted(0, 1), false);
        lost("law(), force()", x -> x.force(Due.law(x, "grows 1")), false);
        lost("saw(), forget()", x -> x.saw(0, 1) + x.forget(), false);
        lost("months(), image()", x -> x.months(1, 1) + x.image(0), false);
        lost("a REFUSED back()", x -> x.back(0), false);
        lost("feed(), end()", x -> x.feed(0, 0, 0, 0, 0) + x.end(0), false);
        lost("orders() that run nothing", x -> Due.orders(x, "pass if 1 = 2"), false);
        lost("orders() that can't be", x -> Due.orders(x, "pass; cloth 0"), false);
        SinLenses x = Due.parish(6);
        x.sin(0, 0, 1);
        x.person();
        DUE.is("a REFUSED person()", x.undo(), 0);
    }
}
