/** Promises 24 to 36: what is found out on paper. */
public final class PaperTest {
    private static final Due DUE = new Due("PaperTest");

    public static void main(String[] args) {
        cure();
        sawAndForget();
        scenesAndAsk();
        mixed();
        fitted();
        come();
        idle();
        alike();
        ground();
        mildest();
        weaker();
        DUE.end();
    }

    private static void cure() {
        SinLenses x = Due.parish(1);
        x.terms(3, 1);
        x.glass(0, 4);
        DUE.is(24, "cure(1, -1)", x.cure(1, -1), -1);
        DUE.is(24, "cure(-1, -1)", x.cure(-1, -1), -1);
        DUE.is(24, "cure(0, -2)", x.cure(0, -2), -1);
        int fewest = x.cure(0, -1);
        int made = 2;
        for (int i = 0; i < fewest; i++) {
            made = Due.lens(x.cure(0, i), made);
        }
        DUE.is(24, "a CURE makes the SCENE", made, 1);
        DUE.is(24, "behind its last LENS", x.cure(0, fewest), -1);
        DUE.is(24, "cure(0, the most)", x.cure(0, Integer.MAX_VALUE), -1);
        int[] row = firstRow(2, 1);
        DUE.is(24, "the fewest", fewest, row.length);
        for (int i = 0; i < row.length; i++) {
            DUE.is(24, "the first as a row, LENS " + i, x.cure(0, i), row[i]);
        }
        x.terms(3, 37);
        x.glass(0, 8);
        DUE.is(24, "all dark", x.of(0, 9), 0);
        DUE.is(24, "cure of what is dark", x.cure(0, -1), reach(0, 37));
        x.terms(3, 0);
        DUE.is(24, "none is due", x.cure(0, -1), 0);
        DUE.is(24, "its first", x.cure(0, 0), -1);
        // 85 and 170 come of one another alone.
        x.terms(3, 170);
        DUE.is(24, "what can't be", x.cure(0, -1), -1);
        DUE.is(24, "what can't be, its first", x.cure(0, 0), -1);
        x.glass(0, 3);
        DUE.is(24, "of 85", x.cure(0, -1), 1);
        DUE.is(24, "of 85, the first of four LENSES", x.cure(0, 0), 2);
    }

    /** All rows of LENSES, the shortest first, rising, until one makes the one of the other. */
    private static int[] firstRow(int from, int to) {
        for (int length = 0; length <= 6; length++) {
            int all = 1;
            for (int n = 0; n < length; n++) {
                all *= 8;
            }
            for (int code = 0; code < all; code++) {
                int[] row = new int[length];
                int made = from;
                for (int n = 0; n < length; n++) {
                    row[n] = code >> 3 * (length - 1 - n) & 7;
                    made = Due.lens(row[n], made);
                }
                if (made == to) {
                    return row;
                }
            }
        }
        return new int[99];
    }

    /** How many LENSES off one number is from another, by rounds over all numbers; -1: it can't be. */
    private static int reach(int from, int to) {
        boolean[] met = new boolean[256];
        met[from] = true;
        for (int round = 0; round < 256; round++) {
            if (met[to]) {
                return round;
            }
            boolean[] next = met.clone();
            for (int n = 0; n < 256; n++) {
                for (int lens = 0; lens < 8 && met[n]; lens++) {
                    next[Due.lens(lens, n)] = true;
                }
            }
            met = next;
        }
        return -1;
    }

    private static void sawAndForget() {
        SinLenses x = Due.parish(1);
        DUE.is(26, "forget()", x.forget(), 0);
        DUE.is(25, "saw(0, 256)", x.saw(0, 256), -1);
        DUE.is(25, "saw(0, -1)", x.saw(0, -1), -1);
        DUE.is(25, "saw(3, 256)", x.saw(3, 256), -1);
        DUE.is(25, "saw(1, 0)", x.saw(1, 0), -2);
        for (int n = 1; n <= 8; n++) {
            DUE.is(25, "saw(0, 255)", x.saw(0, 255), n);
        }
        DUE.is(25, "the ninth", x.saw(0, 255), -5);
        DUE.is(25, "the ninth by nobody", x.saw(1, 255), -2);
        DUE.is(25, "count(2)", x.count(2), 8);
        DUE.is(26, "forget()", x.forget(), 8);
        DUE.is(26, "count(2)", x.count(2), 0);
        DUE.is(25, "anew", x.saw(0, 0), 1);
    }

    private static void scenesAndAsk() {
        SinLenses x = new SinLenses();
        DUE.is(28, "ask(0) without people", x.ask(0), -1);
        DUE.is(28, "ask(1) without people", x.ask(1), -1);
        x.person();
        x.person();
        x.person();
        DUE.is(27, "all", x.scenes(-1), 256);
        DUE.is(27, "scenes(255)", x.scenes(255), 255);
        DUE.is(27, "scenes(256)", x.scenes(256), -1);
        DUE.is(27, "scenes(-2)", x.scenes(-2), -1);
        x.glass(0, 5);
        x.glass(1, 555);
        x.glass(2, 58);
        x.saw(0, 6);
        // CELLS 0 and 7 can be as they will.
        int[] want = {4, 6, 7, 134, 135, -1};
        for (int i = -1; i < 5; i++) {
            DUE.is(27, "scenes(" + i + ")", x.scenes(i), want[i + 1]);
        }
        DUE.is(28, "all see alike: the lowest", x.ask(0), 0);
        DUE.is(28, "how many are left", x.ask(1), 4);
        x.glass(2, 8);
        // Of 6, 7, 134, 135 it SEES 2, 3, 2, 3.
        DUE.is(28, "the best", x.ask(0), 2);
        DUE.is(28, "how many are left", x.ask(1), 2);
        x.saw(2, 3);
        DUE.is(27, "two", x.scenes(-1), 2);
        DUE.is(27, "scenes(1)", x.scenes(1), 135);
        x.glass(1, 0);
        x.saw(1, 7);
        DUE.is(27, "one", x.scenes(-1), 1);
        DUE.is(28, "ask(0) of one", x.ask(0), 0);
        DUE.is(28, "ask(1) of one", x.ask(1), 1);
        x.saw(1, 6);
        DUE.is(27, "none", x.scenes(-1), 0);
        DUE.is(27, "scenes(0) of none", x.scenes(0), -1);
        DUE.is(28, "ask(0) of none", x.ask(0), -1);
        DUE.is(28, "ask(1) of none", x.ask(1), -1);
        x.forget();
        // Of eight CELLS 236 times no five, 208 times no four stand lit in a row.
        x.glass(0, 8888);
        x.glass(1, 888);
        x.glass(2, 888);
        DUE.is(28, "of all SCENES", x.ask(0), 1);
        DUE.is(28, "how many are left", x.ask(1), 208);
        DUE.is(28, "ask(2)", x.ask(2), -1);
        DUE.is(28, "ask(-1)", x.ask(-1), -1);
    }

    private static void mixed() {
        SinLenses x = Due.parish(4);
        x.terms(3, 1);
        x.glass(1, 4);
        x.glass(2, 44);
        x.glass(3, 44);
        DUE.is(29, "all, while nothing was SEEN", x.mixed(-1), 6);
        int[] all = {1, 2, 3, 12, 13, 23, -1};
        for (int i = 0; i < 7; i++) {
            DUE.is(29, "mixed(" + i + ")", x.mixed(i), all[i]);
        }
        x.saw(1, 4);
        DUE.is(29, "1 has that of 2, 3", x.mixed(-1), 2);
        DUE.is(29, "mixed(0)", x.mixed(0), 12);
        DUE.is(29, "mixed(1)", x.mixed(1), 13);
        x.saw(3, 2);
        DUE.is(29, "mixed(0)", x.mixed(0), 13);
        DUE.is(29, "mixed(1)", x.mixed(1), -1);
        x.saw(0, 2);
        DUE.is(29, "none", x.mixed(-1), 0);
        DUE.is(29, "mixed(-2)", x.mixed(-2), -1);
        x.forget();
        // By what is so already: those of whom nothing was SEEN, or who SEE alike.
        x.saw(0, 1);
        x.saw(2, 4);
        DUE.is(29, "two", x.mixed(-1), 2);
        DUE.is(29, "nothing was SEEN", x.mixed(0), 13);
        DUE.is(29, "who SEE alike", x.mixed(1), 23);
    }

    private static void fitted() {
        SinLenses x = new SinLenses();
        DUE.is(30, "without people", x.fitted(0), 0);
        DUE.is(30, "fitted(1)", x.fitted(1), -1);
        x.person();
        x.person();
        x.person();
        x.terms(3, 1);
        x.glass(0, 2);
        x.glass(1, 22);
        x.glass(2, 7);
        // They would SEE 2, 3, 7 CELLS lit.
        x.wanted(0, 3);
        x.wanted(1, 3);
        x.wanted(2, 2);
        DUE.is(30, "all", x.fitted(0), 3);
        DUE.is(30, "fitted(1)", x.fitted(1), 1);
        DUE.is(30, "fitted(2)", x.fitted(2), 2);
        DUE.is(30, "fitted(3)", x.fitted(3), 0);
        DUE.is(30, "fitted(4)", x.fitted(4), -1);
        DUE.is(30, "fitted(-1)", x.fitted(-1), -1);
        DUE.is(30, "fitted(the least)", x.fitted(Integer.MIN_VALUE), -1);
        x.wanted(0, 2);
        x.wanted(1, 0);
        x.wanted(2, 2);
        DUE.is(30, "one alone", x.fitted(0), 1);
        DUE.is(30, "the first row", x.fitted(1) * 100 + x.fitted(2) * 10 + x.fitted(3), 12);
        x.wanted(0, 0);
        DUE.is(30, "one alone, the third", x.fitted(0), 1);
        DUE.is(30, "the first row", x.fitted(1) * 100 + x.fitted(2) * 10 + x.fitted(3), 120);
        SinLenses y = Due.under("does person if lit > person", 6);
        y.terms(3, 1);
        for (int n = 0; n < 6; n++) {
            y.wanted(n, n % 4);
            y.glass(n, new int[] {2, 0, 22, 222, 7, 77}[n]);
        }
        plainFit(y);
        DUE.is(30, "by a LAW", y.fitted(0), most);
        for (int n = 0; n < 6; n++) {
            DUE.is(30, "by a LAW, PERSON " + n, y.fitted(n + 1), best[n]);
        }
    }

    private static int[] best;
    private static int most;

    /** All ways in rising order, each tried by its GLASSES. */
    private static void plainFit(SinLenses x) {
        int people = x.count(0);
        int[][] does = new int[people][people];
        int[] lenses = new int[people];
        for (int n = 0; n < people; n++) {
            for (int i = 0; i < x.of(n, 4); i++) {
                lenses[n] = lenses[n] * 10 + x.of(n, 5 + i) + 1;
            }
        }
        for (int person = 0; person < people; person++) {
            for (int whose = 0; whose < people; whose++) {
                x.glass(person, lenses[whose]);
                does[person][whose] = x.of(person, 10) == x.of(person, 11) ? 1 : 0;
            }
            x.glass(person, lenses[person]);
        }
        most = -1;
        tryAll(does, new int[people], 0, 0, 0);
    }

    private static void tryAll(int[][] does, int[] row, int person, int given, int sum) {
        if (person == row.length) {
            if (sum > most) {
                most = sum;
                best = row.clone();
            }
            return;
        }
        for (int whose = 0; whose < row.length; whose++) {
            if ((given >> whose & 1) == 0) {
                row[person] = whose;
                tryAll(does, row, person + 1, given | 1 << whose, sum + does[person][whose]);
            }
        }
    }

    private static void come() {
        SinLenses x = Due.under("grinds sin / 2; grinds 7 if sins > 10", 1);
        x.sin(0, 0, 6);
        x.sin(0, 1, 3);
        // Of KIND 1 more than 4 make 7, of fewer it is their half.
        DUE.is(31, "come(0, 1, 0)", x.come(0, 1, 0), 3);
        DUE.is(31, "come(0, 1, 1)", x.come(0, 1, 1), 12);
        DUE.is(31, "come(0, 1, 2)", x.come(0, 1, 2), 16);
        DUE.is(31, "come(0, 1, 7)", x.come(0, 1, 7), 480);
        DUE.is(31, "come(0, 1, 6)", x.come(0, 1, 6), 0);
        DUE.is(31, "its SIN is as it was", x.of(0, 1), 3);
        DUE.is(31, "come(1, 0, 0)", x.come(1, 0, 0), -1);
        DUE.is(31, "come(0, 4, 0)", x.come(0, 4, 0), -1);
        DUE.is(31, "come(0, -1, 0)", x.come(0, -1, 0), -1);
        DUE.is(31, "come(0, 0, 8)", x.come(0, 0, 8), -1);
        DUE.is(31, "come(0, 0, -1)", x.come(0, 0, -1), -1);
        x.force(-1);
        DUE.is(31, "without LAW", x.come(0, 3, 4), 496);
    }

    private static void idle() {
        SinLenses x = new SinLenses();
        for (int n = 1; n <= 4; n++) {
            int all = 1;
            for (int lens = 0; lens < n; lens++) {
                all *= 10;
            }
            int found = 0;
            for (int row = 0; row < all; row++) {
                if (isIdle(row, n)) {
                    DUE.is(32, "idle(" + n + ", " + found + ")", x.idle(n, found), row);
                    found++;
                }
            }
            DUE.is(32, "idle(" + n + ", -1)", x.idle(n, -1), found);
            DUE.is(32, "behind the last", x.idle(n, found), -1);
            DUE.is(32, "idle(" + n + ", -2)", x.idle(n, -2), -1);
        }
        DUE.is(32, "idle(0, -1)", x.idle(0, -1), -1);
        DUE.is(32, "idle(5, -1)", x.idle(5, -1), -1);
        DUE.is(32, "idle(-1, 0)", x.idle(-1, 0), -1);
    }

    private static boolean isIdle(int row, int n) {
        int[] lenses = new int[n];
        for (int i = n - 1, rest = row; i >= 0; i--, rest /= 10) {
            lenses[i] = rest % 10;
            if (lenses[i] < 1 || lenses[i] > 7) {
                return false;
            }
        }
        for (int number = 0; number < 256; number++) {
            int made = number;
            for (int lens : lenses) {
                made = Due.lens(lens, made);
            }
            if (made != number) {
                return false;
            }
        }
        return true;
    }

    private static void alike() {
        SinLenses x = Due.parish(4);
        x.terms(3, 24);
        x.glass(1, 3);
        x.glass(2, 4);
        DUE.is(33, "24 turned round is 24", x.alike(0), 3);
        DUE.is(33, "alike(1)", x.alike(1), 3);
        DUE.is(33, "alike(2)", x.alike(2), 1);
        DUE.is(33, "alike(4)", x.alike(4), -1);
        DUE.is(33, "alike(-1)", x.alike(-1), -1);
    }

    private static void ground() {
        SinLenses x = Due.parish(2);
        x.sin(0, 0, 4);
        x.sin(0, 3, 5);
        Due.law(x, "grinds 1");
        Due.law(x, "grinds 0; grinds 2 if kind > 1");
        x.glass(0, 1111);
        DUE.is(34, "without", x.ground(-1, 0), 2);
        DUE.is(34, "by the first", x.ground(0, 0), 4);
        DUE.is(34, "by the second", x.ground(1, 0), 2);
        DUE.is(34, "by the second, another", x.ground(1, 1), 2);
        DUE.is(34, "without, another", x.ground(-1, 1), 0);
        x.force(0);
        DUE.is(34, "without that in FORCE", x.ground(-1, 0), 2);
        DUE.is(34, "in place of that in FORCE", x.ground(1, 0), 2);
        DUE.is(34, "that in FORCE", x.ground(0, 1), 4);
        DUE.is(34, "that in FORCE stays", x.count(11), 0);
        DUE.is(34, "the GLASS stays", x.of(0, 5), 0);
        DUE.is(34, "ground(2, 0)", x.ground(2, 0), -1);
        Due.law(x, "bars; grinds 3 if kind < 3");
        DUE.is(34, "BARRED or not", x.ground(2, 1), 3);
        DUE.is(34, "ground(-2, 0)", x.ground(-2, 0), -1);
        DUE.is(34, "ground(0, 2)", x.ground(0, 2), -1);
        DUE.is(34, "ground(0, -1)", x.ground(0, -1), -1);
    }

    private static void mildest() {
        SinLenses x = Due.parish(1);
        x.terms(3, 1);
        x.glass(0, 7777);
        x.wanted(0, 1);
        DUE.is(35, "none", x.mildest(0), 0);
        x.wanted(0, 2);
        DUE.is(35, "one", x.mildest(0), 2);
        x.wanted(0, 3);
        DUE.is(35, "one further on", x.mildest(0), 7);
        x.wanted(0, 0);
        DUE.is(35, "one that makes all dark", x.mildest(0), 5);
        x.force(Due.law(x, "does 0; does 1 if sight = 6; does 2 if sight = 37; does 3 if sight = 1"));
        x.wanted(0, 1);
        DUE.is(35, "two", x.mildest(0), 24);
        x.wanted(0, 2);
        DUE.is(35, "none does", x.mildest(0), -1);
        x.terms(3, 15);
        x.force(Due.law(x, "does 0; does 2 if sight = 3"));
        DUE.is(35, "the last of all", x.mildest(0), 88);
        x.terms(3, 3);
        x.force(Due.law(x, "does 0; does 2 if sight = 254"));
        DUE.is(35, "the last but one", x.mildest(0), 87);
        DUE.is(35, "mildest(1)", x.mildest(1), -1);
        DUE.is(35, "mildest(-1)", x.mildest(-1), -1);
    }

    private static void weaker() {
        SinLenses x = new SinLenses();
        DUE.is(36, "weaker(0, 60)", x.weaker(0, 60), 1000000000000L);
        DUE.is(36, "weaker(1, 1)", x.weaker(1, 1), 100000000000L);
        DUE.is(36, "weaker(2, 3)", x.weaker(2, 3), 28000000000L);
        DUE.is(36, "weaker(3, 2)", x.weaker(3, 2), 0);
        DUE.is(36, "weaker(20, 20)", x.weaker(20, 20), 0);
        DUE.is(36, "weaker(12, 12)", x.weaker(12, 12), 1);
        x.terms(1, 3);
        // 0.7 to the fifteenth, cut on the way, is not what it is cut once.
        long none = 1000000000000L;
        long some = 0;
        for (int n = 0; n < 60; n++) {
            some += none * 3 / 10;
            none = none * 7 / 10;
        }
        DUE.is(36, "cut PERSON by PERSON", x.weaker(1, 60), some);
        x.terms(1, 10);
        DUE.is(36, "all have", x.weaker(20, 20), 1000000000000L);
        DUE.is(36, "all have, too few", x.weaker(20, 19), 0);
        DUE.is(36, "all have, more", x.weaker(20, 60), 1000000000000L);
        x.terms(1, 0);
        DUE.is(36, "none has", x.weaker(1, 60), 0);
        DUE.is(36, "none or more", x.weaker(0, 0), 1000000000000L);
        int[][] wrong = {{-1, 0}, {21, 0}, {0, -1}, {0, 61}, {Integer.MIN_VALUE, Integer.MAX_VALUE}};
        for (int[] row : wrong) {
            DUE.is(36, "weaker(" + row[0] + ", " + row[1] + ")", x.weaker(row[0], row[1]), -1);
        }
    }
}
