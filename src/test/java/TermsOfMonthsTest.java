/** Terms IV, sentence by sentence: MONTHS, ROWS, IMAGES. */
public final class TermsOfMonthsTest {
    private static final Due DUE = new Due("TermsOfMonthsTest");

    public static void main(String[] args) {
        seedAndDays();
        draws();
        oneMore();
        groundFor();
        oneLess();
        thenTheDayPasses();
        atTheLastDay();
        onPaper();
        rows();
        smears();
        images();
        fullImages();
        emptyImage();
        paperBehindBack();
        notKept();
        imagesStay();
        DUE.end();
    }

    /** What the n-th DRAW of m is. */
    private static int draw(int seed, int n, int m) {
        long s = seed;
        for (int i = 0; i < n; i++) {
            s = (s * 1103 + 12345) % 1000003;
        }
        return (int) (s % m);
    }

    /** The first SEED by which the first DAY draws these. */
    private static int seedFor(int people, int person, int kind, int what) {
        for (int seed = 0; seed <= 1000000; seed++) {
            if (draw(seed, 1, people) == person && draw(seed, 2, 4) == kind && draw(seed, 3, 3) == what) {
                return seed;
            }
        }
        return -1;
    }

    private static void seedAndDays() {
        DUE.says("MONTHS with a SEED, n DAYS 1 .. 60, on paper: s is the SEED (0 .. 1,000,000)");
        SinLenses x = Due.under("bars", 1);
        DUE.is("the least of both", x.months(0, 1), 0);
        DUE.is("the most of both", x.months(1000000, 60), 0);
        DUE.is("the SEED below", x.months(-1, 1), -1);
        DUE.is("the SEED beyond", x.months(1000001, 1), -1);
        DUE.is("no DAY", x.months(0, 0), -1);
        DUE.is("DAYS beyond", x.months(0, 61), -1);
        DUE.is("far below", x.months(Integer.MIN_VALUE, Integer.MIN_VALUE), -1);
        DUE.is("far beyond", x.months(Integer.MAX_VALUE, Integer.MAX_VALUE), -1);
        DUE.is("nobody", new SinLenses().months(0, 1), -3);
    }

    private static void draws() {
        DUE.says("s becomes (s times 1103 and 12345) modulo 1,000,003, it is s modulo m. Each DAY DRAWS of PEOPLE, of 4, of 3");
        for (int seed : new int[] {0, 1, 5, 906, 907, 999999, 1000000}) {
            for (int people = 1; people <= 6; people++) {
                SinLenses x = Due.parish(people);
                int[][] sins = new int[people][4];
                int often = 0;
                for (int day = 0; day < 60; day++) {
                    int person = draw(seed, day * 3 + 1, people);
                    int kind = draw(seed, day * 3 + 2, 4);
                    int what = draw(seed, day * 3 + 3, 3);
                    often += what == 1 ? 1 : 0;
                    sins[person][kind] = Math.max(0, Math.min(8, sins[person][kind] + (what == 0 ? 1 : what == 2 ? -1 : 0)));
                }
                DUE.is("months(" + seed + ", 60)", x.months(seed, 60), often);
                for (int person = 0; person < people; person++) {
                    for (int kind = 0; kind < 4; kind++) {
                        DUE.is("drawn(" + person + ", " + kind + ") by " + seed, x.drawn(person, kind), sins[person][kind]);
                    }
                }
            }
        }
    }

    private static void oneMore() {
        DUE.says("at 0 that PERSON's SIN of that KIND is one more (8 at most)");
        for (int was = 0; was <= 8; was++) {
            SinLenses x = Due.parish(3);
            x.sin(2, 1, was);
            DUE.is("months()", x.months(seedFor(3, 2, 1, 0), 1), 0);
            DUE.is("of " + was, x.drawn(2, 1), Math.min(8, was + 1));
            DUE.is("another KIND", x.drawn(2, 0), 0);
            DUE.is("another PERSON", x.drawn(1, 1), 0);
        }
    }

    private static void groundFor() {
        DUE.says("at 1 it is ground for, if it can be");
        SinLenses x = Due.under("grinds 1; bars if person = 1", 2);
        x.glass(1, 77);
        DUE.is("it can be", x.months(seedFor(2, 0, 3, 1), 1), 1);
        DUE.is("its LENSES", x.drawn(0, 4), 4);
        DUE.is("another's", x.drawn(1, 4), 2);
        DUE.is("it can't be", x.months(seedFor(2, 1, 3, 1), 1), 0);
        DUE.is("its LENSES stay", x.drawn(1, 4), 2);
        DUE.is("another's stay", x.drawn(0, 4), 0);
    }

    private static void oneLess() {
        DUE.says("at 2 its SIN of that KIND is one less (0 at least)");
        for (int was = 0; was <= 8; was++) {
            SinLenses x = Due.parish(3);
            x.sin(0, 3, was);
            x.sin(0, 2, 8);
            DUE.is("months()", x.months(seedFor(3, 0, 3, 2), 1), 0);
            DUE.is("of " + was, x.drawn(0, 3), Math.max(0, was - 1));
            DUE.is("another KIND", x.drawn(0, 2), 8);
        }
    }

    private static void thenTheDayPasses() {
        DUE.says("then the DAY passes");
        // By 0 the SIN is 1 ahead of the DAY, by which what is 1 becomes 5, and what is 0 becomes 2.
        SinLenses x = Due.under("grows 2; grows 4 if sin = 1; grinds 1 if day = 1", 1);
        x.months(seedFor(1, 0, 1, 0), 1);
        DUE.is("what was drawn", x.drawn(0, 1), 5);
        DUE.is("what was not", x.drawn(0, 0), 2);
        x.months(seedFor(1, 0, 1, 1), 1);
        DUE.is("it is ground for ahead of the DAY", x.drawn(0, 4), 0);
        for (int days = 1; days <= 60; days++) {
            SinLenses y = Due.under("bars; grows 1 if day = " + (days - 1), 1);
            y.sin(0, 0, 4);
            SinLenses z = Due.under("bars; grows 0", 1);
            z.sin(0, 0, 4);
            y.months(3, days);
            z.months(3, days);
            int more = 0;
            for (int kind = 0; kind < 4; kind++) {
                more += y.drawn(0, kind) - z.drawn(0, kind) == 1 || z.drawn(0, kind) == 8 ? 1 : 0;
            }
            DUE.is("the last of " + days + " DAYS passes, too", more, 4);
        }
    }

    private static void atTheLastDay() {
        DUE.says("(at 999 it ends)");
        SinLenses x = Due.under("bars; grows 1", 1);
        x.terms(0, 998);
        x.months(seedFor(1, 0, 0, 0), 60);
        DUE.is("one DAY is left: what is drawn", x.drawn(0, 0), 2);
        DUE.is("one DAY is left: what is not", x.drawn(0, 3), 1);
        x.terms(0, 999);
        DUE.is("none is left", x.months(seedFor(1, 0, 0, 0), 1), 0);
        DUE.is("nothing is drawn", x.drawn(0, 0), 0);
        SinLenses y = Due.parish(1);
        y.terms(0, 999);
        y.sin(0, 0, 8);
        DUE.is("nobody is ground for", y.months(seedFor(1, 0, 0, 1), 60), 0);
        DUE.is("no LENSES", y.drawn(0, 4), 0);
        DUE.is("the SIN is told", y.drawn(0, 0), 8);
    }

    private static void onPaper() {
        DUE.says("on paper");
        SinLenses x = Due.under("grows 1; grinds 2", 3);
        x.sin(0, 0, 3);
        String ahead = Due.shape(x);
        x.months(8, 60);
        DUE.is("all is as it was", Due.shape(x).equals(ahead) ? 1 : 0, 1);
        DUE.is("what can be undone", x.count(4), 1);
        DUE.is("it is", x.undo(), 0);
        DUE.is("drawn() stays", x.drawn(0, 0), 8);
    }

    private static void rows() {
        DUE.says("A ROW: the TAPE's bytes by fours: SINS of KINDS 0, 1, 2, 3: a PERSON");
        SinLenses x = new SinLenses();
        x.feed(0x00010208, 0x08080808, 0, 0x08000000, 0x00000008);
        DUE.is("row()", x.row(), 5);
        int[][] want = {{0, 1, 2, 8}, {8, 8, 8, 8}, {0, 0, 0, 0}, {8, 0, 0, 0}, {0, 0, 0, 8}};
        for (int person = 0; person < 5; person++) {
            for (int kind = 0; kind < 4; kind++) {
                DUE.is("of(" + person + ", " + kind + ")", x.of(person, kind), want[person][kind]);
            }
            DUE.is("no LENSES", x.of(person, 4), 0);
            DUE.is("WANTED", x.of(person, 11), 0);
        }
        DUE.is("smears()", x.smears(), 0);
    }

    private static int smearsOf(int people, int bytes, int... fours) {
        SinLenses x = Due.parish(people);
        x.feed(fours[0], fours[1], fours[2], fours[3], fours[4]);
        x.end(bytes);
        int came = x.row();
        DUE.is("PEOPLE then", x.count(0), people + came);
        return came * 100 + x.smears();
    }

    private static void smears() {
        DUE.says("one that can't be, one within which the TAPE ends, one for which there is no room is a SMEAR: nobody");
        DUE.is("none", smearsOf(0, 20, 0, 0, 0, 0, 0), 500);
        for (int kind = 0; kind < 4; kind++) {
            DUE.is("a 9 for KIND " + kind, smearsOf(0, 20, 0, 9 << 8 * (3 - kind), 0, 0, 0), 401);
            DUE.is("a 255 for KIND " + kind, smearsOf(0, 20, 0, 255 << 8 * (3 - kind), 0, 0, 0), 401);
            DUE.is("a 128 for KIND " + kind, smearsOf(0, 20, 0, 128 << 8 * (3 - kind), 0, 0, 0), 401);
        }
        DUE.is("all can't be", smearsOf(0, 20, -1, -1, -1, -1, -1), 5);
        DUE.is("ends within by one", smearsOf(0, 17, 0, 0, 0, 0, 0), 401);
        DUE.is("ends within by two", smearsOf(0, 18, 0, 0, 0, 0, 0), 401);
        DUE.is("ends within by three", smearsOf(0, 19, 0, 0, 0, 0, 0), 401);
        DUE.is("ends behind one", smearsOf(0, 4, 0, 0, 0, 0, 0), 100);
        DUE.is("ends within the first", smearsOf(0, 1, 0, 0, 0, 0, 0), 1);
        DUE.is("ends within one that can't be", smearsOf(0, 1, -1, 0, 0, 0, 0), 1);
        DUE.is("room for one", smearsOf(5, 20, 0, 0, 0, 0, 0), 104);
        DUE.is("room for none", smearsOf(6, 20, 0, 0, 0, 0, 0), 5);
        DUE.is("room for one behind one that can't be", smearsOf(5, 20, -1, 0, -1, 0, 0), 104);
        SinLenses x = new SinLenses();
        for (int n = 0; n < 20; n++) {
            x.feed(0, 0, 0, 0, 0);
        }
        DUE.is("a full TAPE", x.row(), 6);
        DUE.is("its SMEARS", x.smears(), 94);
    }

    private static void images() {
        DUE.says("BACK to one all that it keeps is as it was then");
        SinLenses x = Due.parish(2);
        String[] kept = new String[2];
        for (int k = 0; k < 2; k++) {
            x.person();
            x.sin(k, k, 5);
            x.glass(k, 23 + k);
            x.wanted(k, 3);
            x.saw(k, 40);
            for (int what = 0; what < 4; what++) {
                x.terms(what, 7 + k);
            }
            x.force(Due.law(x, "does " + (k + 1) + "; grinds " + (k + 4) + "; grows " + k));
            DUE.is("image(" + k + ")", x.image(k), 0);
            kept[k] = Due.shape(x);
        }
        x.person();
        x.swap(0, 1);
        x.forget();
        x.force(-1);
        for (int k : new int[] {0, 1, 0}) {
            DUE.is("back(" + k + ")", x.back(k), 0);
            DUE.is("all of IMAGE " + k, Due.shape(x).equals(kept[k]) ? 1 : 0, 1);
        }
    }

    private static void fullImages() {
        DUE.says("IMAGES 0, 1 keep all");
        SinLenses x = Due.parish(6);
        for (int person = 0; person < 6; person++) {
            x.glass(person, person + 2);
            x.wanted(person, 3);
        }
        for (int place = 0; place < 24; place++) {
            x.sin(place / 4, place % 4, 8);
        }
        for (int law = 0; law < 6; law++) {
            x.image(0);
            Due.law(x, "does " + law % 4 + "; grinds " + law);
        }
        // By LENS 1 of 0 the SCENE can be 1 alone, as by LENS 6 of 5.
        for (int n = 0; n < 8; n++) {
            x.saw(n < 7 ? 0 : 5, n < 7 ? 3 : 254);
        }
        x.force(5);
        x.image(1);
        String full = Due.shape(x);
        Due.Call[] calls = {z -> z.force(-1), z -> z.sin(5, 3, -8), z -> z.sin(0, 0, -8), z -> z.cloth(5), z -> z.cloth(0),
            z -> z.wanted(5, 0), z -> z.wanted(0, 0), z -> z.terms(3, 1), z -> z.forget()};
        for (Due.Call call : calls) {
            call.on(x);
        }
        for (int n = 0; n < 8; n++) {
            x.saw(1, 200);
        }
        x.back(1);
        DUE.is("all that is full", Due.shape(x).equals(full) ? 1 : 0, 1);
        DUE.is("all eight that were SEEN", x.scenes(-1) * 1000 + x.scenes(0), 1001);
        x.back(0);
        DUE.is("a LAW of the same number", Due.law(x, "grinds 7"), 5);
        x.back(1);
        DUE.is("the last LAW", x.asks(5, 3, 0), 5);
    }

    private static void emptyImage() {
        DUE.says("BACK to one all that it keeps is as it was then");
        SinLenses y = new SinLenses();
        y.image(0);
        y.person();
        y.sin(0, 0, 3);
        y.glass(0, 2);
        y.wanted(0, 1);
        y.saw(0, 1);
        y.back(0);
        y.person();
        DUE.is("a PERSON behind it is a new one", y.of(0, 0) + y.of(0, 4) + y.of(0, 11) + y.count(2), 0);
    }

    /** On paper all is told as in a parish that never was another: nothing found for a greater one stays behind. */
    private static void paperBehindBack() {
        DUE.says("BACK to one all that it keeps is as it was then");
        for (int people = 0; people < 6; people++) {
            SinLenses x = Due.parish(people);
            DUE.is("all DO what is WANTED", x.fitted(0), people);
            String ahead = onPaper(x);
            x.image(0);
            for (int person = people; person < 6; person++) {
                x.person();
                x.glass(person, 7);
                x.wanted(person, 0);
                x.saw(person, 255);
            }
            x.terms(1, 9);
            DUE.is("all six DO", x.fitted(0), 6);
            onPaper(x);
            x.back(0);
            DUE.is("fitted(0) for " + people, x.fitted(0), people);
            DUE.is("as ahead for " + people, onPaper(x).equals(ahead) ? 1 : 0, 1);
        }
    }

    private static String onPaper(SinLenses x) {
        Due.Call[] calls = {y -> y.cure(0, -1), y -> y.scenes(-1), y -> y.scenes(7), y -> y.ask(0), y -> y.ask(1), y -> y.mixed(-1),
            y -> y.mixed(2), y -> y.come(0, 2, 3), y -> y.alike(0), y -> y.ground(-1, 0), y -> y.mildest(0), y -> (int) y.weaker(2, 9),
            y -> (int) y.weaker(20, 60), y -> y.months(9, 60)};
        StringBuilder told = new StringBuilder();
        for (Due.Call call : calls) {
            told.append(call.on(x)).append(' ');
        }
        for (int what = 0; what <= 7; what++) {
            told.append(x.fitted(what)).append(' ');
        }
        return told.toString();
    }

    private static void notKept() {
        DUE.says("all but the TAPE, FAULT, SMEARS, where ORDERS stopped, what can be undone (nothing, behind back()), the latest MONTHS");
        SinLenses x = Due.parish(1);
        x.image(0);
        x.feed(-1, 0, 0, 0, 0);
        x.end(4);
        x.row();
        Due.orders(x, "pass; cloth 0");
        Due.law(x, "does x");
        x.sin(0, 0, 3);
        x.months(seed(), 1);
        Due.write(x, "pass");
        x.back(0);
        DUE.is("the TAPE", x.count(5), 4);
        DUE.is("what is on it", x.orders(), 1);
        x.back(0);
        DUE.is("SMEARS", x.smears(), 1);
        DUE.is("the latest MONTHS", x.drawn(0, 0), 4);
        SinLenses y = Due.parish(1);
        y.sin(0, 0, 1);
        y.image(0);
        Due.orders(y, "cloth 0");
        Due.law(y, "does x");
        DUE.is("it could be undone", y.count(4), 1);
        y.back(0);
        DUE.is("FAULT", y.fault(), 5);
        DUE.is("where ORDERS stopped", y.stopped(), 0);
        DUE.is("nothing can be undone", y.count(4), 0);
        DUE.is("undo()", y.undo(), -3);
        DUE.is("the SIN is kept", y.of(0, 0), 1);
    }

    private static int seed() {
        return seedFor(1, 0, 0, 0);
    }

    private static void imagesStay() {
        DUE.says("(IMAGES stay)");
        SinLenses x = new SinLenses();
        x.image(0);
        x.person();
        x.image(1);
        x.back(0);
        DUE.is("back(1), which came behind IMAGE 0", x.back(1), 0);
        DUE.is("PEOPLE", x.count(0), 1);
        x.sin(0, 0, 8);
        DUE.is("back(0)", x.back(0), 0);
        DUE.is("PEOPLE", x.count(0), 0);
        DUE.is("back(1) again", x.back(1), 0);
        DUE.is("what came behind it is not in it", x.of(0, 0), 0);
        x.wanted(0, 2);
        DUE.is("image(1) anew", x.image(1), 0);
        x.back(0);
        x.back(1);
        DUE.is("what is kept anew", x.of(0, 11), 2);
    }
}
