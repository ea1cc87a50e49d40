/** What the tests share: answers against those that are due, and TEXTS put on the TAPE. */
final class Due {
    /** A call on a parish, to be made on several. */
    interface Call {
        int on(SinLenses x);
    }

    /** Numbers of PEOPLE who are never there. */
    static final int[] NOBODY = {-1, 6, Integer.MAX_VALUE, Integer.MIN_VALUE};

    private int wrong;
    private final String test;
    private String sentence = "";

    Due(String test) {
        this.test = test;
    }

    void is(int promise, String call, long got, long want) {
        if (got != want) {
            wrong++;
            System.out.println(test + ", promise " + promise + ": " + call + " answered " + got + ", due is " + want);
        }
    }

    /** The sentence of the document by which the answers behind it are due. */
    void says(String words) {
        sentence = words;
    }

    void is(String call, long got, long want) {
        if (got != want) {
            wrong++;
            System.out.println(test + ", \"" + sentence + "\": " + call + " answered " + got + ", due is " + want);
        }
    }

    /** A LAW in which ^ stands ahead of the TOKEN that can't go on; without ^ there is no FAULT. */
    void law(String marked) {
        SinLenses x = parish(6);
        int got = law(x, unmarked(marked));
        is("law() of " + marked, got, marked.indexOf('^') < 0 ? 0 : -6);
        is("fault() of " + marked, x.fault(), marked.indexOf('^'));
    }

    /** ORDERS, as for law(); whether they can be run does not matter. */
    void orders(String marked) {
        SinLenses x = parish(6);
        int got = orders(x, unmarked(marked));
        is("orders() of " + marked + " is REFUSED by -6", got == -6 ? 1 : 0, marked.indexOf('^') < 0 ? 0 : 1);
        is("fault() of " + marked, x.fault(), marked.indexOf('^'));
    }

    private static String unmarked(String marked) {
        return marked.replace("^", "");
    }

    /** Whether a TEST is so (1), is not (0), or is BROKEN (-1: neither it nor its "not" HOLDS). */
    void test(String test, int want) {
        boolean so = under("bars if " + test, 1).of(0, 12) == 1;
        boolean not = under("bars if not (" + test + ")", 1).of(0, 12) == 1;
        is(test, so ? 1 : not ? 0 : -1, want);
    }

    void end() {
        System.out.println(wrong == 0 ? "all answers are as due" : wrong + " answers are not as due");
        if (wrong != 0) {
            System.exit(1);
        }
    }

    static SinLenses parish(int people) {
        SinLenses x = new SinLenses();
        for (int n = 0; n < people; n++) {
            x.person();
        }
        return x;
    }

    static void write(SinLenses x, String text) {
        x.end(0);
        for (int from = 0; from < text.length(); from += 20) {
            x.feed(four(text, from), four(text, from + 4), four(text, from + 8), four(text, from + 12), four(text, from + 16));
        }
        x.end(text.length());
    }

    private static int four(String text, int from) {
        int number = 0;
        for (int i = from; i < from + 4; i++) {
            number = number << 8 | (i < text.length() ? text.charAt(i) & 255 : 0);
        }
        return number;
    }

    static int law(SinLenses x, String text) {
        write(x, text);
        return x.law();
    }

    static int orders(SinLenses x, String text) {
        write(x, text);
        return x.orders();
    }

    /** A parish under one LAW that is in FORCE. */
    static SinLenses under(String law, int people) {
        SinLenses x = parish(people);
        x.force(law(x, law));
        return x;
    }

    /** What calls tell of all that an IMAGE keeps, in some 130 of them for six PEOPLE. */
    static String shape(SinLenses x) {
        StringBuilder told = new StringBuilder();
        for (int what : new int[] {0, 1, 2, 3, 11, 12, 13, 14, 15}) {
            told.append(x.count(what)).append(' ');
        }
        for (int person = 0; person < x.count(0); person++) {
            for (int what = 0; what <= 12; what++) {
                told.append(x.of(person, what)).append(' ');
            }
            told.append(x.asks(person, 0, 0)).append(' ').append(x.asks(person, 3, 1)).append(' ');
        }
        return told.append(x.scenes(-1)).append(' ').append(x.scenes(0)).append(' ').append(x.mixed(-1)).toString();
    }

    /** What a LENS makes of a number, CELL by CELL. */
    static int lens(int lens, int number) {
        int made = 0;
        for (int cell = 0; cell < 8; cell++) {
            boolean itself = lit(number, cell);
            boolean[] then = {itself, itself || lit(number, cell - 1), lit(number, 7 - cell), lit(number, (cell + 7) % 8),
                itself && cell > 0 && cell < 7, lit(number, (cell + 4) % 8), !itself, itself && lit(number, cell + 1)};
            made |= then[lens] ? 1 << cell : 0;
        }
        return made;
    }

    private static boolean lit(int number, int cell) {
        return cell >= 0 && cell < 8 && (number >> cell & 1) == 1;
    }

    static String row(String part, String between, int times) {
        StringBuilder made = new StringBuilder();
        for (int n = 0; n < times; n++) {
            made.append(n == 0 ? "" : between).append(part);
        }
        return made.toString();
    }
}
