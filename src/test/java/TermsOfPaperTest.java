/** Terms III, sentence by sentence: deeds, and what is found out on paper. */
public final class TermsOfPaperTest {
    private static final Due DUE = new Due("TermsOfPaperTest");

    public static void main(String[] args) {
        sin();
        grind();
        swap();
        cloth();
        day();
        dayAskedAhead();
        cureIsTheFewest();
        cureIsTheFirst();
        scenes();
        ask();
        mixed();
        fitted();
        come();
        idle();
        alike();
        ground();
        mildest();
        mildestOfAll();
        weaker();
        weakerAtItsEnds();
        DUE.end();
    }

    private static void sin() {
        DUE.says("A SIN of a KIND: so many eighths more or fewer, 0 .. 8 then.");
        for (int was = 0; was <= 8; was++) {
            for (int by = -8; by <= 8; by++) {
                SinLenses x = Due.parish(1);
                x.sin(0, 2, was);
                int want = was + by >= 0 && was + by <= 8 ? was + by : -3;
                DUE.is(was + " and " + by, x.sin(0, 2, by), want);
                DUE.is("what it is then", x.of(0, 2), want < 0 ? was : want);
            }
        }
    }

    private static void grind() {
        DUE.says("the GLASS has the LENSES to which the SINS of KINDS 0, 1, 2, 3 are GROUND, in order, those that are 0 left out");
        for (int mask = 0; mask < 16; mask++) {
            SinLenses x = Due.parish(1);
            x.glass(0, 8765);
            int lenses = 0;
            for (int kind = 0; kind < 4; kind++) {
                x.sin(0, kind, (mask >> kind & 1) == 1 ? 4 : 3);
                lenses += mask >> kind & 1;
            }
            DUE.is("how many", x.grind(0), lenses);
            int place = 5;
            for (int kind = 0; kind < 4; kind++) {
                if ((mask >> kind & 1) == 1) {
                    DUE.is("the LENS of KIND " + kind, x.of(0, place), kind + 1);
                    place++;
                }
            }
            DUE.is("no more", place < 9 ? x.of(0, place) : -1, -1);
        }
        SinLenses y = Due.under("grinds 7 - kind * 7; grinds 7 if kind = 3", 1);
        DUE.is("the ends of them", y.grind(0), 2);
        DUE.is("both", y.of(0, 5) * 10 + y.of(0, 6), 77);
        DUE.says("To GRIND for one who is not BARRED");
        SinLenses z = Due.under("bars if sight = 255; grinds 1", 2);
        z.terms(3, 255);
        z.glass(1, 7);
        DUE.is("one who is", z.grind(0), -3);
        DUE.is("the GLASS stays", z.of(0, 4), 0);
        DUE.is("one who is not", z.grind(1), 4);
    }

    private static void swap() {
        DUE.says("To SWAP: two PEOPLE have each other's GLASS.");
        SinLenses x = Due.parish(3);
        DUE.is("two without LENSES", x.swap(0, 1), 0);
        x.glass(0, 1234);
        x.glass(1, 8888);
        x.glass(2, 5);
        DUE.is("two with four", x.swap(1, 0), 8);
        for (int i = 0; i < 4; i++) {
            DUE.is("LENS " + i + " of 0", x.of(0, 5 + i), 7);
            DUE.is("LENS " + i + " of 1", x.of(1, 5 + i), i);
        }
        DUE.is("another's stays", x.of(2, 5), 4);
        DUE.is("with itself", x.swap(2, 2), -1);
    }

    private static void cloth() {
        DUE.says("A CLOTH: one that has LENSES takes them off.");
        SinLenses x = Due.parish(2);
        DUE.is("one that has none", x.cloth(0), -3);
        x.glass(0, 1);
        x.glass(1, 1);
        DUE.is("a LENS 0 is one, too", x.cloth(0), 1);
        DUE.is("none then", x.of(0, 4), 0);
        DUE.is("another's stays", x.of(1, 4), 1);
        x.glass(0, 8888);
        DUE.is("four", x.cloth(0), 4);
        DUE.is("none then", x.of(0, 5), -1);
    }

    private static void day() {
        DUE.says("A DAY: all SINS GROW (0 .. 8)");
        for (int growth = -9; growth <= 9; growth++) {
            SinLenses x = Due.under("grows " + (growth < 0 ? "0 - " + -growth : growth), 6);
            for (int person = 0; person < 6; person++) {
                x.sin(person, person % 4, person);
            }
            x.sin(5, 3, 8);
            x.pass();
            for (int person = 0; person < 6; person++) {
                int by = Math.max(-8, Math.min(8, growth));
                DUE.is(person + " by " + growth, x.of(person, person % 4), Math.max(0, Math.min(8, person + by)));
                DUE.is("0 by " + growth, x.of(person, (person + 1) % 4), Math.max(0, by));
            }
            DUE.is("8 by " + growth, x.of(5, 3), Math.max(0, Math.min(8, 8 + growth)));
        }
        SinLenses each = Due.under("grows person + kind - 3", 6);
        each.pass();
        for (int place = 0; place < 24; place++) {
            DUE.is("each by its own, place " + place, each.of(place / 4, place % 4), Math.max(0, place / 4 + place % 4 - 3));
        }
        DUE.says("it is the next DAY (at 999 it can't be)");
        SinLenses x = Due.under("grows 1", 1);
        DUE.is("the first", x.pass(), 1);
        x.terms(0, 998);
        DUE.is("the last", x.pass(), 999);
        DUE.is("none behind it", x.pass(), -3);
        DUE.is("it stays", x.count(12), 999);
        DUE.is("SINS stay", x.of(0, 0), 2);
    }

    private static void dayAskedAhead() {
        DUE.says("all asked as it was ahead");
        // Were they asked one behind the other, the first would bear on the others; were it the next DAY, all would be 0.
        SinLenses x = Due.under("grows 1 if sins = 0 and day = 0", 2);
        x.pass();
        DUE.is("all of all", x.count(1), 8);
        x.pass();
        DUE.is("none", x.count(1), 8);
    }

    /** How many LENSES off each number is from the SCENE, asked from the SCENE backwards; 999: it can't be. */
    private static int[] offFrom(int scene, int[][] made) {
        int[] off = new int[256];
        java.util.Arrays.fill(off, 999);
        off[scene] = 0;
        boolean changed = true;
        while (changed) {
            changed = false;
            for (int n = 0; n < 256; n++) {
                for (int lens = 1; lens < 8; lens++) {
                    int by = off[made[lens][n]] + 1;
                    changed |= by < off[n];
                    off[n] = Math.min(off[n], by);
                }
            }
        }
        return off;
    }

    private static void cureIsTheFewest() {
        DUE.says("a CURE of a PERSON: the fewest LENSES that, behind those of the GLASS, make of what it SEES the SCENE");
        SinLenses x = Due.parish(1);
        x.terms(3, 37);
        DUE.is("without LENSES none", x.cure(0, -1), 0);
        DUE.is("and no first one", x.cure(0, 0), -1);
        x.glass(0, 33);
        DUE.is("LENSES that come to nothing", x.cure(0, -1), 0);
        x.glass(0, 7);
        DUE.is("one", x.cure(0, -1), 1);
        DUE.is("it", x.cure(0, 0), 6);
        DUE.is("none behind it", x.cure(0, 1), -1);
        DUE.is("cure(0, -2)", x.cure(0, -2), -1);
        DUE.is("the GLASS stays", x.of(0, 4), 1);
        x.terms(3, 170);
        x.glass(0, 8);
        DUE.is("it can't be", x.cure(0, -1), -1);
        DUE.is("nor its first", x.cure(0, 0), -1);
        for (int person : Due.NOBODY) {
            DUE.is("cure(" + person + ", -1)", x.cure(person, -1), -1);
        }
    }

    private static void cureIsTheFirst() {
        DUE.says("the first as a row of LENSES");
        int[][] table = new int[8][256];
        for (int n = 0; n < 8 * 256; n++) {
            table[n / 256][n % 256] = Due.lens(n / 256, n % 256);
        }
        for (int scene = 0; scene < 256; scene += 5) {
            int[] off = offFrom(scene, table);
            for (int glass : new int[] {2, 3, 5, 7, 8, 62, 84, 2727}) {
                SinLenses x = Due.parish(1);
                x.terms(3, scene);
                x.glass(0, glass);
                int made = x.of(0, 9);
                int fewest = off[made] >= 999 ? -1 : off[made];
                String what = "of SCENE " + scene + ", GLASS " + glass;
                DUE.is("how many " + what, x.cure(0, -1), fewest);
                for (int i = 0; i < fewest; i++) {
                    int lens = 0;
                    while (off[Due.lens(lens, made)] != off[made] - 1) {
                        lens++;
                    }
                    DUE.is("LENS " + i + " " + what, x.cure(0, i), lens);
                    made = Due.lens(lens, made);
                }
                DUE.is("behind the last " + what, x.cure(0, Math.max(fewest, 0)), -1);
            }
        }
    }

    private static void scenes() {
        DUE.says("SCENES by which all SEEN would be so, GLASSES as now; rising.");
        SinLenses x = Due.parish(2);
        DUE.is("all, while nothing is SEEN", x.scenes(-1), 256);
        DUE.is("the first", x.scenes(0), 0);
        DUE.is("the last", x.scenes(255), 255);
        DUE.is("none behind it", x.scenes(256), -1);
        DUE.is("scenes(-2)", x.scenes(-2), -1);
        x.glass(0, 5);
        x.saw(0, 126);
        int[] four = {126, 127, 254, 255};
        for (int i = 0; i < 4; i++) {
            DUE.is("scenes(" + i + ")", x.scenes(i), four[i]);
        }
        DUE.is("four", x.scenes(-1), 4);
        x.saw(1, 254);
        DUE.is("all SEEN", x.scenes(-1), 1);
        DUE.is("it", x.scenes(0), 254);
        x.glass(1, 7);
        DUE.is("GLASSES as now", x.scenes(-1), 0);
        DUE.is("none", x.scenes(0), -1);
        x.forget();
        x.glass(0, 5);
        x.saw(0, 1);
        DUE.is("what can't be SEEN so", x.scenes(-1), 0);
        x.forget();
        for (int n = 0; n < 7; n++) {
            x.saw(0, 126);
        }
        DUE.is("seven alike", x.scenes(-1), 4);
        x.saw(1, 1);
        DUE.is("the eighth counts, too", x.scenes(0), 254);
        DUE.is("one", x.scenes(-1), 1);
    }

    private static void ask() {
        DUE.says("the PERSON by whom, of these SCENES, the most that look alike are as few as can be; the lowest");
        SinLenses x = new SinLenses();
        DUE.is("nobody", x.ask(0), -1);
        DUE.is("nobody", x.ask(1), -1);
        for (int n = 0; n < 6; n++) {
            x.person();
            x.glass(n, 55);
        }
        DUE.is("all alike: the lowest", x.ask(0), 0);
        DUE.is("four look alike", x.ask(1), 4);
        x.glass(5, 6);
        DUE.is("the last is the best", x.ask(0), 5);
        DUE.is("each looks its own way", x.ask(1), 1);
        x.glass(3, 0);
        DUE.is("the lower of two", x.ask(0), 3);
        x.saw(5, 0);
        DUE.is("of one SCENE: the lowest", x.ask(0), 0);
        DUE.is("one is left", x.ask(1), 1);
        x.saw(5, 1);
        DUE.is("of none", x.ask(0), -1);
        DUE.is("of none", x.ask(1), -1);
        DUE.is("ask(2)", x.ask(2), -1);
        DUE.is("ask(-1)", x.ask(-1), -1);
        SinLenses spread = Due.parish(1);
        spread.glass(0, 2222);
        int alike = 0;
        for (int scene = 0; scene < 256; scene++) {
            alike += Due.lens(1, Due.lens(1, Due.lens(1, Due.lens(1, scene)))) == 255 ? 1 : 0;
        }
        DUE.is("all that look lit, the last SCENE, too", spread.ask(1), alike);
        DUE.says("of these SCENES");
        SinLenses y = Due.parish(3);
        y.glass(0, 5);
        y.glass(1, 57);
        y.glass(2, 8);
        y.saw(0, 6);
        // 6, 7, 134, 135 look alike to 0 and to 1; to 2 they are 2, 3, 2, 3.
        DUE.is("the best for these", y.ask(0), 2);
        DUE.is("two are left", y.ask(1), 2);
    }

    private static void mixed() {
        DUE.says("twos of PEOPLE by whose SWAP all SEEN would be so with the SCENE as it is; by the lower, then the higher one");
        SinLenses x = Due.parish(6);
        DUE.is("all twos, while nothing is SEEN", x.mixed(-1), 15);
        int i = 0;
        for (int low = 0; low < 6; low++) {
            for (int high = low + 1; high < 6; high++) {
                DUE.is("mixed(" + i + ")", x.mixed(i), low * 10 + high);
                i++;
            }
        }
        DUE.is("none behind the last", x.mixed(15), -1);
        DUE.is("mixed(-2)", x.mixed(-2), -1);
        x.terms(3, 1);
        x.glass(5, 4);
        x.saw(0, 2);
        DUE.is("0 has that of 5", x.mixed(-1), 1);
        DUE.is("it", x.mixed(0), 5);
        x.saw(5, 1);
        DUE.is("5 has that of 0, too", x.mixed(0), 5);
        x.saw(4, 2);
        DUE.is("all SEEN", x.mixed(-1), 0);
        DUE.is("none", x.mixed(0), -1);
        x.forget();
        x.saw(0, 3);
        x.terms(3, 3);
        DUE.is("the SCENE as it is: all but 0 with 5", x.mixed(-1), 14);
        x.forget();
        for (int n = 0; n < 7; n++) {
            x.saw(0, 3);
        }
        x.saw(5, 3);
        DUE.is("the eighth SEEN counts, too: 5 with each but 0", x.mixed(-1), 4);
        DUE.is("the first", x.mixed(0), 15);
        DUE.is("one is no two", Due.parish(1).mixed(-1), 0);
        DUE.is("nobody", new SinLenses().mixed(-1), 0);
        DUE.is("two", Due.parish(2).mixed(0), 1);
    }

    private static void fitted() {
        DUE.says("GLASSES as they are to PEOPLE anew, each to one, each has one: the most who DO what is WANTED; the first as a row of whose GLASS each has");
        SinLenses x = Due.parish(6);
        x.terms(3, 1);
        DUE.is("none DOES", x.fitted(0), 0);
        for (int p = 0; p < 6; p++) {
            DUE.is("the first row of all", x.fitted(1 + p), p);
            x.wanted(p, p % 2 == 0 ? 2 : 1);
        }
        DUE.is("three DO", x.fitted(0), 3);
        x.glass(1, 2);
        x.glass(3, 2);
        x.glass(5, 2);
        // 0, 2, 4 want one of those that show two CELLS; 1, 3, 5 one of the others.
        DUE.is("all DO", x.fitted(0), 6);
        int[] row = {1, 0, 3, 2, 5, 4};
        for (int p = 0; p < 6; p++) {
            DUE.is("fitted(" + (1 + p) + ")", x.fitted(1 + p), row[p]);
        }
        DUE.is("fitted(7)", x.fitted(7), -1);
        DUE.is("GLASSES stay", x.of(0, 4) * 10 + x.of(1, 4), 1);
        SinLenses y = Due.under("does person if sight = 1", 2);
        y.terms(3, 1);
        y.wanted(1, 1);
        y.glass(1, 4);
        y.wanted(0, 1);
        // By its own GLASS 0 DOES 0; changed, it SEES 2 and DOES lit % 4, which is 1, and 1 DOES 1 by the LAW.
        DUE.is("what each would DO by another's", y.fitted(0), 2);
        DUE.is("changed", y.fitted(1) * 10 + y.fitted(2), 10);
        DUE.is("nobody", new SinLenses().fitted(0), 0);
        DUE.is("whose GLASS nobody has", new SinLenses().fitted(1), -1);
    }

    private static void come() {
        DUE.says("OF WHAT a LENS can come: SINS 0 .. 8 of a PERSON and a KIND, all else as now, that would be GROUND to it.");
        SinLenses x = Due.under("grinds sin if kind = 0; grinds sins if kind = 1; grinds 5 if kind = 2", 2);
        x.sin(0, 0, 2);
        for (int lens = 0; lens < 8; lens++) {
            DUE.is("its own SIN, LENS " + lens, x.come(1, 0, lens), lens == 7 ? 384 : 1 << lens);
            DUE.is("all its SINS, LENS " + lens, x.come(0, 1, lens), lens < 2 ? 0 : lens == 7 ? 480 : 1 << lens - 2);
            DUE.is("always 5, LENS " + lens, x.come(0, 2, lens), lens == 5 ? 511 : 0);
            DUE.is("without, LENS " + lens, x.come(0, 3, lens), lens == 0 ? 15 : lens == 4 ? 496 : 0);
        }
        DUE.is("its SINS stay", x.of(0, 0) * 100 + x.count(1), 202);
        DUE.is("nothing to undo by it", x.count(4), 1);
    }

    private static void idle() {
        DUE.says("rows of n LENSES 1 .. 7 that make of each number 0 .. 255 itself; as rows of numbers go");
        SinLenses x = new SinLenses();
        DUE.is("none of one, LENS 0 aside", x.idle(1, -1), 0);
        DUE.is("its first", x.idle(1, 0), -1);
        int[] two = {22, 55, 66};
        for (int i = 0; i < 3; i++) {
            DUE.is("of two", x.idle(2, i), two[i]);
        }
        DUE.is("no more", x.idle(2, 3), -1);
        // Turned round, moved, turned round, moved is nothing; so are two that are nothing, one behind or within the other.
        int four = x.idle(4, -1);
        boolean[] met = new boolean[10000];
        int before = 0;
        for (int i = 0; i < four; i++) {
            int row = x.idle(4, i);
            DUE.is("rising", row > before ? 1 : 0, 1);
            met[row] = true;
            before = row;
        }
        for (int row : new int[] {2222, 2323, 2255, 2662, 3232, 5555, 5225, 6666, 2525}) {
            DUE.is("of four: " + row, met[row] ? 1 : 0, 1);
        }
        DUE.is("of five", x.idle(5, -1), -1);
        DUE.is("of none", x.idle(0, -1), -1);
    }

    private static void alike() {
        DUE.says("ALIKE: how many PEOPLE SEE what a PERSON SEES.");
        SinLenses x = Due.parish(6);
        DUE.is("all", x.alike(5), 6);
        x.terms(3, 129);
        x.glass(0, 3);
        x.glass(1, 4);
        DUE.is("by other LENSES the same", x.alike(0), 5);
        DUE.is("alone", x.alike(1), 1);
        for (int person : Due.NOBODY) {
            DUE.is("alike(" + person + ")", x.alike(person), -1);
        }
    }

    private static void ground() {
        DUE.says("GROUND by a LAW in place of that in FORCE (NONE: none): how many LENSES a PERSON would have.");
        SinLenses x = Due.parish(1);
        for (int lenses = 0; lenses <= 4; lenses++) {
            Due.law(x, "grinds 1 if kind < " + lenses + "; grinds 0 if kind > " + lenses + " - 1");
        }
        x.sin(0, 1, 4);
        x.force(4);
        for (int lenses = 0; lenses <= 4; lenses++) {
            DUE.is("by LAW " + lenses, x.ground(lenses, 0), lenses);
        }
        DUE.is("by none", x.ground(-1, 0), 1);
        DUE.is("no such LAW", x.ground(5, 0), -1);
        DUE.is("ground(-2, 0)", x.ground(-2, 0), -1);
        DUE.is("that in FORCE stays", x.count(11), 4);
        DUE.is("the GLASS stays", x.of(0, 4), 0);
        for (int person : Due.NOBODY) {
            DUE.is("ground(0, " + person + ")", x.ground(0, person), -1);
        }
    }

    private static void mildest() {
        DUE.says("of all GLASSES of at most two LENSES that of the fewest");
        SinLenses x = Due.under("does 0; does 1 if sight = 1; does 2 if sight = 2; does 3 if sight = 4", 1);
        x.terms(3, 1);
        x.glass(0, 8888);
        x.wanted(0, 1);
        DUE.is("none", x.mildest(0), 0);
        x.wanted(0, 2);
        DUE.is("one", x.mildest(0), 4);
        x.wanted(0, 3);
        DUE.is("two", x.mildest(0), 44);
        x.terms(3, 0);
        // Of 0 come 0, 255, 126, 127 alone.
        DUE.is("none of at most two", x.mildest(0), -1);
        DUE.is("the GLASS stays", x.of(0, 4), 4);
        for (int person : Due.NOBODY) {
            DUE.is("mildest(" + person + ")", x.mildest(person), -1);
        }
    }

    private static void mildestOfAll() {
        DUE.says("of these the first as a row of LENSES, by which a PERSON would DO what is WANTED");
        int scene = 37;
        for (int sight = 0; sight < 256; sight++) {
            SinLenses x = Due.under("does 0; does 3 if sight = " + sight, 1);
            x.terms(3, scene);
            x.wanted(0, 3);
            int want = scene == sight ? 0 : -1;
            for (int lens = 0; lens < 8 && want == -1; lens++) {
                want = Due.lens(lens, scene) == sight ? lens + 1 : -1;
            }
            for (int row = 0; row < 64 && want == -1; row++) {
                want = Due.lens(row % 8, Due.lens(row / 8, scene)) == sight ? (row / 8 + 1) * 10 + row % 8 + 1 : -1;
            }
            DUE.is("to SEE " + sight, x.mildest(0), want);
        }
    }

    private static long chance(int weak, int k, int n) {
        long[] have = new long[k + 1];
        have[0] = 1000000000000L;
        for (int person = 0; person < n; person++) {
            long[] then = new long[k + 1];
            then[k] = have[k];
            for (int j = 0; j < k; j++) {
                then[j] += have[j] * (10 - weak) / 10;
                then[j + 1] += have[j] * weak / 10;
            }
            have = then;
        }
        return have[k];
    }

    private static void weaker() {
        DUE.says("PERSON by PERSON, by how many have them, 0 .. k less 1, each part times the rest by ten, and times WEAK by ten to one more, both cut; k stays k");
        for (int weak = 0; weak <= 10; weak++) {
            for (int k = 0; k <= 20; k++) {
                SinLenses x = new SinLenses();
                x.terms(1, weak);
                for (int n = 0; n <= 60; n++) {
                    DUE.is("weaker(" + k + ", " + n + ") at " + weak, x.weaker(k, n), chance(weak, k, n));
                }
            }
        }
        SinLenses x = new SinLenses();
        x.terms(1, 5);
        // 0.5 to the twelfth is 244140625 of them; from the thirteenth on they are cut: 122070312, 61035156.
        DUE.is("uncut", x.weaker(12, 12), 244140625);
        DUE.is("cut", x.weaker(13, 13), 122070312);
        DUE.is("cut again", x.weaker(14, 14), 61035156);
    }

    private static void weakerAtItsEnds() {
        DUE.says("(with k 0 all of them)");
        SinLenses x = new SinLenses();
        DUE.is("of nobody", x.weaker(0, 0), 1000000000000L);
        DUE.is("of sixty", x.weaker(0, 60), 1000000000000L);
        DUE.is("one of nobody", x.weaker(1, 0), 0);
        DUE.is("twenty of nineteen", x.weaker(20, 19), 0);
        x.terms(1, 10);
        DUE.is("all are weak, nobody is none", x.weaker(0, 60), 1000000000000L);
        DUE.is("all are weak", x.weaker(20, 60), 1000000000000L);
        DUE.is("all are weak, just as many", x.weaker(20, 20), 1000000000000L);
        x.terms(1, 0);
        DUE.is("nobody is weak", x.weaker(1, 60), 0);
    }
}
