/** Terms I, sentence by sentence: SCENES, LENSES, PEOPLE, TERMS, refusals. */
public final class TermsOfPeopleTest {
    private static final Due DUE = new Due("TermsOfPeopleTest");

    public static void main(String[] args) {
        scene();
        lenses();
        lensesAtTheEnds();
        people();
        sins();
        glass();
        wanted();
        seen();
        terms();
        sees();
        noSuch();
        firstRefusal();
        refusedChangesNothing();
        DUE.end();
    }

    private static void scene() {
        DUE.says("eight CELLS 0 .. 7, lit or dark, as a number 0 .. 255 (CELL 0 the lowest bit; 0 at first)");
        SinLenses x = Due.parish(1);
        DUE.is("the SCENE at first", x.count(15), 0);
        DUE.is("what is SEEN of it", x.of(0, 9), 0);
        DUE.is("terms(3, 255)", x.terms(3, 255), 0);
        DUE.is("terms(3, 256)", x.terms(3, 256), -1);
        DUE.is("terms(3, -1)", x.terms(3, -1), -1);
        DUE.is("the SCENE stays", x.count(15), 255);
        for (int cell = 0; cell < 8; cell++) {
            // The DEED is 3 if just this CELL is the lowest that is lit.
            SinLenses y = Due.under("does 0; does 3 if first = " + cell + " and lit = 1", 1);
            y.terms(3, 1 << cell);
            DUE.is("CELL " + cell, y.of(0, 10), 3);
        }
    }

    private static void each(int lens, String sentence, int... want) {
        DUE.says(sentence);
        SinLenses x = new SinLenses();
        for (int cell = 0; cell < 8; cell++) {
            DUE.is("lens(" + lens + ", CELL " + cell + " alone)", x.lens(lens, 1 << cell), want[cell]);
        }
    }

    private static void lenses() {
        each(0, "0 x itself", 1, 2, 4, 8, 16, 32, 64, 128);
        each(1, "1 each CELL that is lit, and that above it (CELL 7 has none)", 3, 6, 12, 24, 48, 96, 192, 128);
        each(2, "2 the CELLS the other way round (0 for 7, 1 for 6, ..)", 128, 64, 32, 16, 8, 4, 2, 1);
        each(3, "3 each CELL one further up (CELL 7 comes to 0)", 2, 4, 8, 16, 32, 64, 128, 1);
        each(4, "4 CELLS 0 and 7 dark", 0, 2, 4, 8, 16, 32, 64, 0);
        each(5, "5 the lower four changed for the upper four", 16, 32, 64, 128, 1, 2, 4, 8);
        each(6, "6 lit for dark", 254, 253, 251, 247, 239, 223, 191, 127);
        each(7, "7 each CELL that is lit, if that above it is (CELL 7 dark)", 0, 0, 0, 0, 0, 0, 0, 0);
        SinLenses x = new SinLenses();
        for (int cell = 0; cell < 7; cell++) {
            DUE.is("lens(7, CELL " + cell + " and that above it)", x.lens(7, 3 << cell), 1 << cell);
        }
        DUE.is("CELL 0 is not above CELL 7", x.lens(7, 129), 0);
    }

    private static void lensesAtTheEnds() {
        DUE.says("LENSES 0 .. 7, what they make of a number x of 0 .. 255");
        int[] ofNone = {0, 0, 0, 0, 0, 0, 255, 0};
        int[] ofAll = {255, 255, 255, 255, 126, 255, 0, 127};
        SinLenses x = new SinLenses();
        for (int lens = 0; lens < 8; lens++) {
            DUE.is("lens(" + lens + ", 0)", x.lens(lens, 0), ofNone[lens]);
            DUE.is("lens(" + lens + ", 255)", x.lens(lens, 255), ofAll[lens]);
            DUE.is("lens(" + lens + ", 256)", x.lens(lens, 256), -1);
            DUE.is("lens(" + lens + ", -1)", x.lens(lens, -1), -1);
        }
        DUE.is("lens(-1, 0)", x.lens(-1, 0), -1);
        DUE.is("lens(8, 0)", x.lens(8, 0), -1);
        DUE.is("lens(the most, the most)", x.lens(Integer.MAX_VALUE, Integer.MAX_VALUE), -1);
        DUE.is("lens(the least, the least)", x.lens(Integer.MIN_VALUE, Integer.MIN_VALUE), -1);
    }

    private static void people() {
        DUE.says("PEOPLE 0 .. 5 (6 at most)");
        SinLenses x = Due.parish(5);
        DUE.is("the last that has room", x.person(), 5);
        DUE.is("one more", x.person(), -5);
        DUE.is("how many", x.count(0), 6);
        x.feed(0, 0, 0, 0, 0);
        DUE.is("none by row()", x.row(), 0);
        DUE.is("how many", x.count(0), 6);
        DUE.is("the last", x.of(5, 0), 0);
        DUE.is("there is none behind", x.of(6, 0), -1);
    }

    private static void sins() {
        DUE.says("SINS of KINDS 0 .. 3, 0 .. 8 (eighths; 0 at first)");
        SinLenses x = Due.parish(1);
        for (int kind = 0; kind < 4; kind++) {
            DUE.is("at first", x.of(0, kind), 0);
            DUE.is("one fewer than none", x.sin(0, kind, -1), -3);
            DUE.is("the most", x.sin(0, kind, 8), 8);
            DUE.is("one more than the most", x.sin(0, kind, 1), -3);
            DUE.is("it stays", x.of(0, kind), 8);
        }
        DUE.is("no KIND 4", x.sin(0, 4, 1), -1);
        DUE.is("no KIND -1", x.sin(0, -1, 1), -1);
        DUE.is("all SINS", x.count(1), 32);
    }

    private static void glass() {
        DUE.says("a GLASS: 0 .. 4 LENSES in order (none at first)");
        SinLenses x = Due.parish(1);
        DUE.is("at first", x.of(0, 4), 0);
        DUE.is("the first LENS of none", x.of(0, 5), -1);
        DUE.is("four", x.glass(0, 1234), 4);
        for (int i = 0; i < 4; i++) {
            DUE.is("LENS " + i, x.of(0, 5 + i), i);
        }
        DUE.is("five", x.glass(0, 11111), -1);
        DUE.is("four stay", x.of(0, 4), 4);
    }

    private static void wanted() {
        DUE.says("a DEED that is WANTED of them 0 .. 3 (0)");
        SinLenses x = Due.parish(1);
        DUE.is("at first", x.of(0, 11), 0);
        DUE.is("wanted(0, 3)", x.wanted(0, 3), 0);
        DUE.is("wanted(0, 4)", x.wanted(0, 4), -1);
        DUE.is("wanted(0, -1)", x.wanted(0, -1), -1);
        DUE.is("it stays", x.of(0, 11), 3);
        DUE.is("wanted(0, 0)", x.wanted(0, 0), 3);
    }

    private static void seen() {
        DUE.says("SEEN, 8 at most: a PERSON saw so (0 .. 255)");
        SinLenses x = Due.parish(1);
        DUE.is("none at first", x.count(2), 0);
        DUE.is("saw(0, 256)", x.saw(0, 256), -1);
        DUE.is("saw(0, -1)", x.saw(0, -1), -1);
        for (int n = 1; n <= 8; n++) {
            DUE.is("saw " + n, x.saw(0, n % 2 == 0 ? 0 : 255), n);
        }
        DUE.is("the ninth", x.saw(0, 0), -5);
        DUE.is("how many", x.count(2), 8);
    }

    private static void term(String sentence, int what, int first, int most) {
        DUE.says(sentence);
        SinLenses x = new SinLenses();
        DUE.is("at first", x.count(12 + what), first);
        DUE.is("the most", x.terms(what, most), first);
        DUE.is("beyond", x.terms(what, most + 1), -1);
        DUE.is("far beyond", x.terms(what, Integer.MAX_VALUE), -1);
        DUE.is("below", x.terms(what, -1), -1);
        DUE.is("far below", x.terms(what, Integer.MIN_VALUE), -1);
        DUE.is("it stays", x.count(12 + what), most);
        DUE.is("the least", x.terms(what, 0), most);
        DUE.is("it is the least", x.count(12 + what), 0);
        for (int other = 0; other < 4; other++) {
            if (other != what) {
                DUE.is("TERM " + other + " stays", x.count(12 + other), other == 1 ? 1 : 0);
            }
        }
    }

    private static void terms() {
        term("TERMS: 0 DAY 0 .. 999 (0 at first)", 0, 0, 999);
        term("1 WEAK 0 .. 10 (1)", 1, 1, 10);
        term("2 MOOD 0 .. 9 (0)", 2, 0, 9);
        term("3 SCENE 0 .. 255", 3, 0, 255);
    }

    private static void sees() {
        DUE.says("One SEES what the LENSES of the GLASS make of the SCENE, one behind the other.");
        SinLenses x = Due.parish(1);
        x.terms(3, 129);
        DUE.is("without LENSES", x.of(0, 9), 129);
        x.glass(0, 1);
        DUE.is("by LENS 0", x.of(0, 9), 129);
        x.glass(0, 24);
        // 129 spreads to 131, which moves up to 7.
        DUE.is("by LENSES 1, 3", x.of(0, 9), 7);
        x.glass(0, 5724);
        // The ends go dark: 0; all lit: 255; spread and moved they stay so.
        DUE.is("by LENSES 4, 6, 1, 3", x.of(0, 9), 255);
        x.glass(0, 2475);
        // 131, moved 7, the others 248, CELL 7 dark 120.
        DUE.is("by LENSES 1, 3, 6, 4", x.of(0, 9), 120);
        x.terms(3, 0);
        // 0, 0, 255, 126.
        DUE.is("another SCENE", x.of(0, 9), 126);
    }

    private static void noSuch() {
        DUE.says("-2 there is no such PERSON, LAW, IMAGE");
        SinLenses x = Due.parish(2);
        int[] nobody = {-1, 2, 5, 6, Integer.MAX_VALUE, Integer.MIN_VALUE};
        for (int person : nobody) {
            DUE.is("glass(" + person + ", 1)", x.glass(person, 1), -2);
            DUE.is("wanted(" + person + ", 1)", x.wanted(person, 1), -2);
            DUE.is("sin(" + person + ", 0, 1)", x.sin(person, 0, 1), -2);
            DUE.is("grind(" + person + ")", x.grind(person), -2);
            DUE.is("swap(" + person + ", 0)", x.swap(person, 0), -2);
            DUE.is("swap(0, " + person + ")", x.swap(0, person), -2);
            DUE.is("cloth(" + person + ")", x.cloth(person), -2);
            DUE.is("saw(" + person + ", 0)", x.saw(person, 0), -2);
        }
        DUE.is("swap() of two who are not there", x.swap(2, 3), -2);
        for (int law : new int[] {-2, 0, 5, 6, Integer.MAX_VALUE, Integer.MIN_VALUE}) {
            DUE.is("force(" + law + ")", x.force(law), -2);
        }
        DUE.is("back(0)", x.back(0), -2);
        DUE.is("back(1)", x.back(1), -2);
    }

    /** One PERSON, BARRED, without LENSES; no room for what is SEEN or for LAWS; the last DAY. */
    private static SinLenses full() {
        SinLenses x = Due.parish(1);
        for (int n = 0; n < 6; n++) {
            Due.law(x, "bars");
        }
        for (int n = 0; n < 8; n++) {
            x.saw(0, 0);
        }
        x.force(0);
        x.terms(0, 999);
        return x;
    }

    private static void firstRefusal() {
        DUE.says("The first of these in that order.");
        SinLenses x = full();
        DUE.is("sin: -1 ahead of -2, no KIND", x.sin(1, 4, 1), -1);
        DUE.is("sin: -1 ahead of -2, too much", x.sin(1, 0, 9), -1);
        DUE.is("sin: -1 ahead of -3", x.sin(0, 0, -9), -1);
        DUE.is("sin: -2 ahead of -3", x.sin(1, 0, -1), -2);
        DUE.is("grind: -2 ahead of -3", x.grind(1), -2);
        DUE.is("swap: -1 ahead of -2", x.swap(1, 1), -1);
        DUE.is("cloth: -2 ahead of -3", x.cloth(1), -2);
        DUE.is("glass: -1 ahead of -2", x.glass(1, 9), -1);
        DUE.is("wanted: -1 ahead of -2", x.wanted(1, 4), -1);
        DUE.is("saw: -1 ahead of -2, -5", x.saw(1, 256), -1);
        DUE.is("saw: -1 ahead of -5", x.saw(0, 256), -1);
        DUE.is("saw: -2 ahead of -5", x.saw(1, 0), -2);
        DUE.is("law: -5 ahead of -6", Due.law(x, "x"), -5);
        DUE.is("back: -1 ahead of -2", x.back(2), -1);
        DUE.is("months: -1 ahead of -3, the SEED", new SinLenses().months(-1, 1), -1);
        DUE.is("months: -1 ahead of -3, the DAYS", new SinLenses().months(0, 0), -1);
        DUE.is("orders: what has a FAULT is not run", Due.orders(x, "grind 0; x"), -6);
        int[] counts = {9, 4, 0, 1, 1};
        for (int n = 0; n < counts.length; n++) {
            DUE.is("each is counted once, count(" + (6 + n) + ")", x.count(6 + n), counts[n]);
        }
    }

    private static void refusedChangesNothing() {
        DUE.says("REFUSED by: -1 a number that can't be; -2 there is no such PERSON, LAW, IMAGE; -3 it can't be by what stands; -5 no room");
        Due.Call[] refused = {
            x -> x.sin(0, 4, 1), x -> x.sin(0, 0, 9), x -> x.sin(1, 0, 1), x -> x.sin(0, 0, -1), x -> x.grind(0), x -> x.grind(1),
            x -> x.swap(0, 0), x -> x.swap(0, 1), x -> x.cloth(0), x -> x.cloth(1), x -> x.pass(), x -> x.glass(0, 9), x -> x.glass(1, 1),
            x -> x.wanted(0, 4), x -> x.wanted(1, 1), x -> x.terms(0, 1000), x -> x.terms(4, 0), x -> x.saw(0, 256), x -> x.saw(0, 1),
            x -> x.law(), x -> x.orders(), x -> x.row(), x -> x.force(6), x -> x.undo(), x -> x.months(0, 0), x -> x.image(2),
            x -> x.back(0), x -> x.back(2)};
        for (int n = 0; n < refused.length; n++) {
            SinLenses x = full();
            String ahead = Due.shape(x);
            int got = refused[n].on(x);
            DUE.is("refusal " + n + " is told by status()", x.status(), got);
            DUE.is("refusal " + n + " is one", got < 0 ? 1 : 0, 1);
            DUE.is("refusal " + n + " changes nothing", Due.shape(x).equals(ahead) ? 0 : 1, 0);
        }
    }
}
