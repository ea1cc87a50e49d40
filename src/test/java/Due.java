/** What the tests share: answers against those that are due, and TEXTS put on the TAPE. */
final class Due {
    private int wrong;
    private final String test;

    Due(String test) {
        this.test = test;
    }

    void is(int promise, String call, long got, long want) {
        if (got != want) {
            wrong++;
            System.out.println(test + ", promise " + promise + ": " + call + " answered " + got + ", due is " + want);
        }
    }

    void end() {
        System.out.println(wrong == 0 ? "all answers are as due" : wrong + " answers are not as due");
        if (wrong != 0) {
            System.exit(1);
        }
    }

    static SinLenses parish(int people) {
        SinLenses x = new SinLenses();
        for (int n = 0; n < people; n++) {
            x.person();
        }
        return x;
    }

    static void write(SinLenses x, String text) {
        x.end(0);
        for (int from = 0; from < text.length(); from += 20) {
            x.feed(four(text, from), four(text, from + 4), four(text, from + 8), four(text, from + 12), four(text, from + 16));
        }
        x.end(text.length());
    }

    private static int four(String text, int from) {
        int number = 0;
        for (int i = from; i < from + 4; i++) {
            number = number << 8 | (i < text.length() ? text.charAt(i) & 255 : 0);
        }
        return number;
    }

    static int law(SinLenses x, String text) {
        write(x, text);
        return x.law();
    }

    static int orders(SinLenses x, String text) {
        write(x, text);
        return x.orders();
    }

    /** A parish under one LAW that is in FORCE. */
    static SinLenses under(String law, int people) {
        SinLenses x = parish(people);
        x.force(law(x, law));
        return x;
    }

    /** What a LENS makes of a number, CELL by CELL. */
    static int lens(int lens, int number) {
        int made = 0;
        for (int cell = 0; cell < 8; cell++) {
            boolean itself = lit(number, cell);
            boolean[] then = {itself, itself || lit(number, cell - 1), lit(number, 7 - cell), lit(number, (cell + 7) % 8),
                itself && cell > 0 && cell < 7, lit(number, (cell + 4) % 8), !itself, itself && lit(number, cell + 1)};
            made |= then[lens] ? 1 << cell : 0;
        }
        return made;
    }

    private static boolean lit(int number, int cell) {
        return cell >= 0 && cell < 8 && (number >> cell & 1) == 1;
    }

    static String row(String part, String between, int times) {
        StringBuilder made = new StringBuilder();
        for (int n = 0; n < times; n++) {
            made.append(n == 0 ? "" : between).append(part);
        }
        return made.toString();
    }
}
