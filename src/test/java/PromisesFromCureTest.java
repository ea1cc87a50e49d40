/** Promises 24 to 42, each sentence that names an edge: what is found on paper, MONTHS, IMAGES, counts. */
public final class PromisesFromCureTest {
    private static final Due DUE = new Due("PromisesFromCureTest");

    public static void main(String[] args) {
        cure();
        saw();
        forget();
        scenes();
        ask();
        mixed();
        fitted();
        come();
        idle();
        alike();
        ground();
        mildest();
        weaker();
        months();
        drawn();
        image();
        back();
        countsOfWhatIs();
        countsOfRefusals();
        countsOfOthers();
        statusAheadOfAny();
        statusOfEach();
        statusOfOthers();
        onPaperNothingChanges();
        DUE.end();
    }

    private static void cure() {
        DUE.says("A CURE: how many LENSES (i NONE), the i-th. NONE (it can't be).");
        SinLenses x = Due.parish(1);
        x.terms(3, 1);
        x.glass(0, 4);
        // Of 2 comes 64 the other way round, of that 128 further up, of that 1 the other way round.
        DUE.is("how many", x.cure(0, -1), 3);
        DUE.is("the first", x.cure(0, 0), 2);
        DUE.is("the second", x.cure(0, 1), 3);
        DUE.is("the last", x.cure(0, 2), 2);
        DUE.is("behind the last", x.cure(0, 3), -1);
        DUE.is("i -2", x.cure(0, -2), -1);
        DUE.is("i the most", x.cure(0, Integer.MAX_VALUE), -1);
        DUE.is("i the least", x.cure(0, Integer.MIN_VALUE), -1);
        DUE.is("nobody", x.cure(1, -1), -1);
        x.terms(3, 85);
        x.glass(0, 8);
        DUE.is("it can't be", x.cure(0, -1), -1);
        DUE.is("its first", x.cure(0, 0), -1);
    }

    private static void saw() {
        DUE.says("A PERSON SAW so 0 .. 255: how often there was. -1; -2; -5.");
        SinLenses x = Due.parish(2);
        DUE.is("0", x.saw(0, 0), 1);
        DUE.is("255", x.saw(1, 255), 2);
        DUE.is("-1", x.saw(0, -1), -1);
        DUE.is("256", x.saw(0, 256), -1);
        DUE.is("nobody", x.saw(2, 0), -2);
        for (int n = 3; n <= 8; n++) {
            DUE.is("the same again", x.saw(0, 0), n);
        }
        DUE.is("the ninth", x.saw(0, 0), -5);
        DUE.is("eight stay", x.count(2), 8);
    }

    private static void forget() {
        DUE.says("SEEN is nothing then: how often there was.");
        SinLenses x = Due.parish(1);
        DUE.is("none", x.forget(), 0);
        for (int n = 0; n < 9; n++) {
            x.saw(0, 7);
        }
        DUE.is("eight", x.forget(), 8);
        DUE.is("none then", x.forget(), 0);
        DUE.is("all SCENES", x.scenes(-1), 256);
        DUE.is("there is room again", x.saw(0, 9), 1);
        DUE.is("what was SEEN ahead does not count", x.scenes(0), 9);
    }

    private static void scenes() {
        DUE.says("SCENES: how many (i NONE), the i-th. NONE.");
        SinLenses x = new SinLenses();
        DUE.is("all, of nobody", x.scenes(-1), 256);
        for (int i = 0; i < 256; i++) {
            DUE.is("scenes(" + i + ")", x.scenes(i), i);
        }
        DUE.is("scenes(256)", x.scenes(256), -1);
        DUE.is("scenes(-2)", x.scenes(-2), -1);
        DUE.is("scenes(the most)", x.scenes(Integer.MAX_VALUE), -1);
        DUE.is("scenes(the least)", x.scenes(Integer.MIN_VALUE), -1);
    }

    private static void ask() {
        DUE.says("To ASK: the PERSON (what 0), how many SCENES are left at most (1). NONE (none, nobody).");
        SinLenses x = new SinLenses();
        DUE.is("nobody", x.ask(0), -1);
        DUE.is("nobody", x.ask(1), -1);
        x.person();
        DUE.is("the only one", x.ask(0), 0);
        DUE.is("one is left", x.ask(1), 1);
        x.glass(0, 8888);
        DUE.is("236 look dark", x.ask(1), 236);
        x.glass(0, 0);
        x.saw(0, 0);
        x.saw(0, 1);
        DUE.is("none", x.ask(0), -1);
        DUE.is("none", x.ask(1), -1);
        DUE.is("ask(2)", x.ask(2), -1);
        DUE.is("ask(-1)", x.ask(-1), -1);
        DUE.is("ask(the most)", x.ask(Integer.MAX_VALUE), -1);
    }

    private static void mixed() {
        DUE.says("MIXED: how many (i NONE), the i-th as ten times the lower and the higher one. NONE.");
        SinLenses x = Due.parish(6);
        DUE.is("how many", x.mixed(-1), 15);
        DUE.is("the first", x.mixed(0), 1);
        DUE.is("the last", x.mixed(14), 45);
        DUE.is("behind the last", x.mixed(15), -1);
        DUE.is("mixed(-2)", x.mixed(-2), -1);
        DUE.is("mixed(the most)", x.mixed(Integer.MAX_VALUE), -1);
        DUE.is("mixed(the least)", x.mixed(Integer.MIN_VALUE), -1);
        x.saw(0, 1);
        DUE.is("none", x.mixed(-1), 0);
        DUE.is("the first of none", x.mixed(0), -1);
    }

    private static void fitted() {
        DUE.says("FITTED: how many (what 0), whose GLASS PERSON p has (1 + p). NONE.");
        for (int people = 0; people <= 6; people++) {
            SinLenses x = Due.parish(people);
            DUE.is("how many", x.fitted(0), people);
            for (int p = 0; p < 7; p++) {
                DUE.is("fitted(" + (1 + p) + ") of " + people, x.fitted(1 + p), p < people ? p : -1);
            }
            DUE.is("fitted(-1)", x.fitted(-1), -1);
            DUE.is("fitted(the most)", x.fitted(Integer.MAX_VALUE), -1);
            DUE.is("fitted(the least)", x.fitted(Integer.MIN_VALUE), -1);
        }
    }

    private static void come() {
        DUE.says("OF WHAT a LENS 0 .. 7 can come: SINS, as nine bits. NONE.");
        SinLenses x = Due.under("grinds 8 - sin; grinds 0 if sin = 0", 1);
        for (int lens = 1; lens < 8; lens++) {
            DUE.is("LENS " + lens, x.come(0, 0, lens), 1 << 8 - lens);
        }
        DUE.is("LENS 0: the lowest and the highest bit", x.come(0, 0, 0), 257);
        DUE.is("LENS 8", x.come(0, 0, 8), -1);
        DUE.is("LENS -1", x.come(0, 0, -1), -1);
        DUE.is("KIND 4", x.come(0, 4, 0), -1);
        DUE.is("KIND -1", x.come(0, -1, 0), -1);
        DUE.is("nobody", x.come(1, 0, 0), -1);
        for (int person : Due.NOBODY) {
            DUE.is("come(" + person + ", 0, 0)", x.come(person, 0, 0), -1);
        }
    }

    private static void idle() {
        DUE.says("IDLE rows of n LENSES 1 .. 4: how many (i NONE), the i-th, its LENSES as digits, the first one the highest. NONE.");
        SinLenses x = new SinLenses();
        for (int n : new int[] {0, 5, -1, Integer.MAX_VALUE, Integer.MIN_VALUE}) {
            DUE.is("idle(" + n + ", -1)", x.idle(n, -1), -1);
            DUE.is("idle(" + n + ", 0)", x.idle(n, 0), -1);
        }
        for (int n = 1; n <= 4; n++) {
            DUE.is("behind the last", x.idle(n, x.idle(n, -1)), -1);
            DUE.is("idle(" + n + ", -2)", x.idle(n, -2), -1);
            DUE.is("idle(" + n + ", the most)", x.idle(n, Integer.MAX_VALUE), -1);
            DUE.is("idle(" + n + ", the least)", x.idle(n, Integer.MIN_VALUE), -1);
        }
        DUE.is("of three", x.idle(3, -1), 0);
        // One with four LENSES 6; six times two with two of them; ten without.
        DUE.is("of four", x.idle(4, -1), 23);
        DUE.is("the first of four", x.idle(4, 0), 2222);
        DUE.is("the second of four", x.idle(4, 1), 2255);
        DUE.is("the last of four", x.idle(4, 22), 6666);
    }

    private static void alike() {
        DUE.says("ALIKE (itself, too). NONE.");
        SinLenses x = Due.parish(2);
        DUE.is("both", x.alike(0), 2);
        x.glass(1, 7);
        DUE.is("itself", x.alike(0), 1);
        DUE.is("itself", x.alike(1), 1);
        DUE.is("nobody", x.alike(2), -1);
        DUE.is("alike(-1)", x.alike(-1), -1);
    }

    private static void ground() {
        DUE.says("GROUND by a LAW. NONE.");
        SinLenses x = Due.parish(1);
        DUE.is("by none, while there is none", x.ground(-1, 0), 0);
        DUE.is("by one that is not there", x.ground(0, 0), -1);
        for (int law = 0; law < 6; law++) {
            Due.law(x, "grinds 1 if kind = " + law);
            DUE.is("by LAW " + law, x.ground(law, 0), law < 4 ? 1 : 0);
        }
        DUE.is("by LAW 6", x.ground(6, 0), -1);
        DUE.is("by LAW -2", x.ground(-2, 0), -1);
        DUE.is("by the most", x.ground(Integer.MAX_VALUE, 0), -1);
        DUE.is("by the least", x.ground(Integer.MIN_VALUE, 0), -1);
        DUE.is("nobody", x.ground(-1, 1), -1);
        DUE.is("no refusal", x.status(), 0);
    }

    private static void mildest() {
        DUE.says("MILDEST: its LENSES as told for glass() (0: none). NONE (none does).");
        SinLenses x = Due.parish(1);
        DUE.is("none", x.mildest(0), 0);
        x.wanted(0, 3);
        // Of 0 come 0, 255, 126, 127: 127 alone has lit % 4 of 3.
        DUE.is("two", x.mildest(0), 78);
        x.glass(0, x.mildest(0));
        DUE.is("by which it is DONE", x.of(0, 10), 3);
        x.wanted(0, 1);
        DUE.is("none does", x.mildest(0), -1);
        DUE.is("nobody", x.mildest(1), -1);
        DUE.is("mildest(-1)", x.mildest(-1), -1);
    }

    private static void weaker() {
        DUE.says("WEAKER, k 0 .. 20, n 0 .. 60. NONE.");
        SinLenses x = new SinLenses();
        DUE.is("weaker(0, 0)", x.weaker(0, 0), 1000000000000L);
        DUE.is("weaker(-1, 0)", x.weaker(-1, 0), -1);
        DUE.is("weaker(21, 0)", x.weaker(21, 0), -1);
        DUE.is("weaker(0, -1)", x.weaker(0, -1), -1);
        DUE.is("weaker(0, 61)", x.weaker(0, 61), -1);
        DUE.is("weaker(20, 60) can be", x.weaker(20, 60) >= 0 ? 1 : 0, 1);
        DUE.is("weaker(20, 61)", x.weaker(20, 61), -1);
        DUE.is("weaker(21, 60)", x.weaker(21, 60), -1);
        DUE.is("weaker(the most, the most)", x.weaker(Integer.MAX_VALUE, Integer.MAX_VALUE), -1);
        DUE.is("weaker(the least, the least)", x.weaker(Integer.MIN_VALUE, Integer.MIN_VALUE), -1);
    }

    private static void months() {
        DUE.says("MONTHS, kept as the latest: how often one was ground for. -1; -3 there is nobody.");
        SinLenses x = new SinLenses();
        DUE.is("nobody", x.months(0, 1), -3);
        DUE.is("nobody, a number that can't be", x.months(0, 61), -1);
        x.person();
        x.sin(0, 0, 8);
        DUE.is("months(0, 1)", x.months(0, 1) >= 0 ? 1 : 0, 1);
        int once = x.drawn(0, 0);
        DUE.is("REFUSED", x.months(0, 0), -1);
        DUE.is("the latest is kept", x.drawn(0, 0), once);
        x.sin(0, 0, -8);
        x.sin(0, 1, 4);
        x.months(0, 1);
        DUE.is("another is the latest", x.drawn(0, 0) < 2 && x.drawn(0, 1) > 2 ? 1 : 0, 1);
    }

    private static void drawn() {
        DUE.says("Behind the latest MONTHS the SIN of KIND k 0 .. 3 (what k), how many LENSES (4) of a PERSON. NONE.");
        SinLenses x = Due.under("bars", 2);
        for (int what = -1; what <= 5; what++) {
            DUE.is("drawn(0, " + what + ") ahead of any", x.drawn(0, what), -1);
        }
        for (int kind = 0; kind < 4; kind++) {
            x.sin(1, kind, 2 * kind + 1);
        }
        x.glass(1, 123);
        x.terms(0, 999);
        x.months(0, 1);
        for (int kind = 0; kind < 4; kind++) {
            DUE.is("drawn(1, " + kind + ")", x.drawn(1, kind), 2 * kind + 1);
        }
        DUE.is("drawn(1, 4)", x.drawn(1, 4), 3);
        DUE.is("drawn(0, 4)", x.drawn(0, 4), 0);
        DUE.is("drawn(1, 5)", x.drawn(1, 5), -1);
        DUE.is("drawn(1, -1)", x.drawn(1, -1), -1);
        DUE.is("drawn(2, 0)", x.drawn(2, 0), -1);
        for (int person : Due.NOBODY) {
            DUE.is("drawn(" + person + ", 0)", x.drawn(person, 0), -1);
        }
    }

    private static void image() {
        DUE.says("IMAGE k is kept: 0; -1.");
        SinLenses x = new SinLenses();
        DUE.is("image(0)", x.image(0), 0);
        DUE.is("image(1)", x.image(1), 0);
        DUE.is("image(2)", x.image(2), -1);
        DUE.is("image(-1)", x.image(-1), -1);
        DUE.is("image(the most)", x.image(Integer.MAX_VALUE), -1);
        DUE.is("image(the least)", x.image(Integer.MIN_VALUE), -1);
        DUE.is("image(0) anew", x.image(0), 0);
    }

    private static void back() {
        DUE.says("BACK to IMAGE k: 0. -1; -2 it was not kept.");
        SinLenses x = new SinLenses();
        DUE.is("back(0)", x.back(0), -2);
        DUE.is("back(1)", x.back(1), -2);
        DUE.is("back(2)", x.back(2), -1);
        DUE.is("back(-1)", x.back(-1), -1);
        DUE.is("back(the most)", x.back(Integer.MAX_VALUE), -1);
        DUE.is("back(the least)", x.back(Integer.MIN_VALUE), -1);
        x.image(1);
        x.person();
        DUE.is("back(0) is not kept yet", x.back(0), -2);
        DUE.is("nothing changed", x.count(0), 1);
        DUE.is("back(1)", x.back(1), 0);
        DUE.is("to nobody", x.count(0), 0);
    }

    private static void countsOfWhatIs() {
        DUE.says("0 PEOPLE, 1 all SINS together, 2 SEEN, 3 LAWS, 4 how many can be undone, 5 bytes of the TAPE .. 11 the LAW in FORCE, 12 .. 15 TERMS 0 .. 3");
        SinLenses x = Due.parish(6);
        for (int n = 0; n < 24; n++) {
            x.sin(n / 4, n % 4, 8);
        }
        for (int n = 0; n < 8; n++) {
            x.saw(0, 0);
        }
        for (int n = 0; n < 6; n++) {
            Due.law(x, "bars");
        }
        x.force(5);
        for (int n = 0; n < 20; n++) {
            x.feed(0, 0, 0, 0, 0);
        }
        int[] want = {6, 192, 8, 6, 16, 400, 0, 0, 0, 0, 0, 5};
        for (int what = 0; what < want.length; what++) {
            DUE.is("count(" + what + ")", x.count(what), want[what]);
        }
        int[] most = {999, 10, 9, 255};
        for (int what = 0; what < 4; what++) {
            x.terms(what, most[what]);
            DUE.is("count(" + (12 + what) + ")", x.count(12 + what), most[what]);
        }
        DUE.is("none can be undone", x.count(4), 0);
    }

    private static void countsOfRefusals() {
        DUE.says("6 .. 10 how many calls were REFUSED by -1, -2, -3, -5, -6 (IMAGES do not keep that)");
        SinLenses x = Due.parish(6);
        x.image(0);
        for (int n = 0; n < 5; n++) {
            // One by -1, two by -2, and so on.
            refuse(x, n, n + 1);
            for (int what = 0; what < 5; what++) {
                DUE.is("count(" + (6 + what) + ")", x.count(6 + what), what <= n ? what + 1 : 0);
            }
        }
        x.back(0);
        for (int what = 0; what < 5; what++) {
            DUE.is("behind back(), count(" + (6 + what) + ")", x.count(6 + what), what + 1);
        }
    }

    private static void refuse(SinLenses x, int which, int times) {
        Due.Call[] calls = {y -> y.image(2), y -> y.back(1), y -> y.undo(), y -> y.person(), y -> y.row()};
        for (int n = 0; n < times; n++) {
            calls[which].on(x);
        }
    }

    private static void countsOfOthers() {
        DUE.says("NONE for others");
        SinLenses x = new SinLenses();
        for (int what : new int[] {-1, 16, -100, 100, Integer.MAX_VALUE, Integer.MIN_VALUE}) {
            DUE.is("count(" + what + ")", x.count(what), -1);
        }
    }

    private static void statusAheadOfAny() {
        DUE.says("0 if it was not, or ahead of any");
        SinLenses x = new SinLenses();
        DUE.is("ahead of any", x.status(), 0);
        x.of(0, 0);
        x.feed(0, 0, 0, 0, 0);
        x.end(99);
        DUE.is("ahead of any of these", x.status(), 0);
        x.image(5);
        DUE.is("behind one that was", x.status(), -1);
        DUE.is("asked again", x.status(), -1);
        x.person();
        DUE.is("behind one that was not", x.status(), 0);
    }

    /** Each call that status() tells of, as it is REFUSED and as it is not, each behind one of the other sort. */
    private static void statusOfEach() {
        DUE.says("What the latest call of person, glass, wanted, terms, row, law, orders, force, sin, grind, swap, cloth, pass, undo, saw, months, image, back was REFUSED by");
        String[] names = {"person", "glass", "wanted", "terms", "row", "law", "orders", "force", "sin", "grind", "swap", "cloth", "pass",
            "undo", "saw", "months", "image", "back"};
        Due.Call[] refused = {x -> x.person(), x -> x.glass(0, 9), x -> x.wanted(9, 0), x -> x.terms(0, -1), x -> x.row(),
            x -> Due.law(x, "x"), x -> Due.orders(x, "cloth 0"), x -> x.force(9), x -> x.sin(0, 0, -1), x -> x.grind(9),
            x -> x.swap(0, 0), x -> x.cloth(0), x -> x.terms(0, 999) * 0 + x.pass(), x -> x.undo(), x -> x.saw(0, 256),
            x -> x.months(-1, 1), x -> x.image(2), x -> x.back(1)};
        int[] want = {-5, -1, -2, -1, -6, -6, -3, -2, -3, -2, -1, -3, -3, -3, -1, -1, -1, -2};
        for (int n = 0; n < names.length; n++) {
            SinLenses x = Due.parish(6);
            DUE.is(names[n] + "()", refused[n].on(x), want[n]);
            DUE.is("status() behind " + names[n] + "() that was REFUSED", x.status(), want[n]);
        }
        Due.Call[] taken = {x -> x.person(), x -> x.glass(0, 0), x -> x.wanted(0, 0), x -> x.terms(2, 0), x -> row(x),
            x -> Due.law(x, "bars"), x -> Due.orders(x, "pass"), x -> x.force(-1) + 1, x -> x.sin(0, 0, 0), x -> x.grind(0),
            x -> x.swap(0, 1), x -> x.cloth(1), x -> x.pass(), x -> x.undo(), x -> x.saw(0, 0), x -> x.months(0, 1), x -> x.image(0),
            x -> x.back(0)};
        for (int n = 0; n < names.length; n++) {
            SinLenses x = Due.parish(2);
            x.glass(1, 2);
            x.sin(1, 1, 1);
            x.image(0);
            x.image(3);
            DUE.is("status() ahead", x.status(), -1);
            DUE.is(names[n] + "() can be", taken[n].on(x) >= 0 ? 1 : 0, 1);
            DUE.is("status() behind " + names[n] + "()", x.status(), 0);
        }
    }

    private static int row(SinLenses x) {
        x.feed(0, 0, 0, 0, 0);
        return x.row();
    }

    private static void statusOfOthers() {
        DUE.says("the latest call of person .. back: other calls do not bear on it");
        Due.Call[] others = {x -> x.of(9, 0), x -> x.asks(9, 0, 0), x -> x.lens(9, 0), x -> x.feed(0, 0, 0, 0, 0), x -> x.end(-1),
            x -> x.smears(), x -> x.fault(), x -> x.stopped(), x -> x.cure(9, 0), x -> x.forget(), x -> x.scenes(999), x -> x.ask(9),
            x -> x.mixed(99), x -> x.fitted(9), x -> x.come(9, 0, 0), x -> x.idle(9, 0), x -> x.alike(9), x -> x.ground(9, 0),
            x -> x.mildest(9), x -> (int) x.weaker(99, 0), x -> x.drawn(9, 0), x -> x.count(99), x -> x.status()};
        SinLenses x = Due.parish(1);
        SinLenses y = Due.parish(1);
        y.force(7);
        for (int n = 0; n < others.length; n++) {
            others[n].on(x);
            others[n].on(y);
            DUE.is("status() of 0 behind other call " + n, x.status(), 0);
            DUE.is("status() of -2 behind other call " + n, y.status(), -2);
        }
        for (int what = 6; what <= 10; what++) {
            DUE.is("they are not counted, count(" + what + ")", x.count(what), 0);
        }
    }

    private static void onPaperNothingChanges() {
        DUE.says("(On paper:)");
        SinLenses x = Due.under("grinds sin + 1; does sins; grows 1; bars if lit = 3", 3);
        x.terms(3, 37);
        x.glass(1, 42);
        x.saw(0, 37);
        x.saw(1, 90);
        x.sin(2, 2, 5);
        String ahead = Due.shape(x);
        Due.Call[] calls = {y -> y.cure(1, 0), y -> y.scenes(-1), y -> y.ask(0), y -> y.mixed(0), y -> y.fitted(1), y -> y.come(2, 2, 3),
            y -> y.idle(3, -1), y -> y.alike(1), y -> y.ground(-1, 2), y -> y.mildest(1), y -> (int) y.weaker(2, 9), y -> y.months(9, 60),
            y -> y.drawn(0, 0)};
        for (Due.Call call : calls) {
            call.on(x);
        }
        DUE.is("all is as it was", Due.shape(x).equals(ahead) ? 1 : 0, 1);
        DUE.is("what can be undone", x.count(4), 1);
        DUE.is("the SIN is", x.undo(), 0);
    }
}
