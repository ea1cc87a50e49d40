/** Promises 9 to 12: feed, end, row, smears. */
public final class TapeTest {
    private static final Due DUE = new Due("TapeTest");

    public static void main(String[] args) {
        feedAndEnd();
        rows();
        fullRows();
        DUE.end();
    }

    private static void feedAndEnd() {
        SinLenses x = new SinLenses();
        DUE.is(10, "end(0)", x.end(0), 0);
        DUE.is(10, "end(1)", x.end(1), -1);
        DUE.is(10, "end(-1)", x.end(-1), -1);
        for (int n = 1; n <= 20; n++) {
            DUE.is(9, "feed", x.feed(-1, 0, 1, Integer.MAX_VALUE, Integer.MIN_VALUE), 20 * n);
        }
        DUE.is(9, "feed beyond 400", x.feed(0, 0, 0, 0, 0), -1);
        DUE.is(9, "count(5)", x.count(5), 400);
        DUE.is(9, "status()", x.status(), 0);
        DUE.is(10, "end(401)", x.end(401), -1);
        DUE.is(10, "end(381)", x.end(381), 381);
        DUE.is(9, "feed to 401", x.feed(0, 0, 0, 0, 0), -1);
        DUE.is(10, "end(380)", x.end(380), 380);
        DUE.is(9, "feed to 400", x.feed(0, 0, 0, 0, 0), 400);
        DUE.is(10, "end(400)", x.end(400), 400);
        DUE.is(10, "end(3)", x.end(3), 3);
        DUE.is(10, "end(4)", x.end(4), -1);
    }

    private static void rows() {
        SinLenses x = new SinLenses();
        DUE.is(11, "row() without TAPE", x.row(), -6);
        DUE.is(12, "smears() ahead of any", x.smears(), 0);
        // The highest byte first.
        x.feed(0x00010208, 0x08070605, 0x00000900, 0x000000FF, 0x01010101);
        x.end(18);
        DUE.is(11, "row()", x.row(), 2);
        DUE.is(12, "smears()", x.smears(), 3);
        DUE.is(11, "the TAPE is empty", x.count(5), 0);
        int[] first = {0, 1, 2, 8};
        int[] second = {8, 7, 6, 5};
        for (int kind = 0; kind < 4; kind++) {
            DUE.is(11, "of(0, " + kind + ")", x.of(0, kind), first[kind]);
            DUE.is(11, "of(1, " + kind + ")", x.of(1, kind), second[kind]);
        }
        DUE.is(11, "row() without TAPE", x.row(), -6);
        DUE.is(11, "status()", x.status(), -6);
        DUE.is(12, "smears() behind a REFUSED row()", x.smears(), 3);
        x.feed(0, 0, 0, 0, 0);
        x.end(4);
        DUE.is(11, "row() of one", x.row(), 1);
        DUE.is(12, "smears() of none", x.smears(), 0);
    }

    private static void fullRows() {
        SinLenses x = Due.parish(4);
        x.sin(0, 0, 1);
        x.feed(1, 2, 3, 4, 5);
        DUE.is(11, "row() with room for two", x.row(), 2);
        DUE.is(12, "smears()", x.smears(), 3);
        DUE.is(11, "of(5, 3)", x.of(5, 3), 2);
        DUE.is(11, "nothing ahead of it can be undone", x.undo(), -3);
        x.sin(0, 0, 1);
        x.feed(1, 2, 3, 4, 5);
        DUE.is(11, "row() without room", x.row(), 0);
        DUE.is(11, "status()", x.status(), 0);
        DUE.is(12, "smears()", x.smears(), 5);
        DUE.is(11, "nothing can be undone though nobody came", x.undo(), -3);
        DUE.is(11, "count(0)", x.count(0), 6);
    }
}
