/** Promises 37 and 38: months, drawn. */
public final class MonthsTest {
    private static final Due DUE = new Due("MonthsTest");

    public static void main(String[] args) {
        refused();
        likeDays("", 3, 7, 60);
        likeDays("grows sin % 2; grows 0 - 1 if day % 7 = 0; grinds sins - sin; bars if sins > 9", 5, 1000000, 60);
        likeDays("bars", 2, 0, 40);
        likeDays("grows 8; grinds day", 6, 123456, 33);
        atTheEnd();
        kept();
        DUE.end();
    }

    private static void refused() {
        SinLenses x = new SinLenses();
        DUE.is(37, "nobody", x.months(0, 1), -3);
        int[][] wrong = {{-1, 1}, {1000001, 1}, {0, 0}, {0, 61}, {0, -1}};
        for (int[] row : wrong) {
            DUE.is(37, "months(" + row[0] + ", " + row[1] + ") of nobody", x.months(row[0], row[1]), -1);
        }
        DUE.is(38, "drawn(0, 0) ahead of any", x.drawn(0, 0), -1);
        x.person();
        DUE.is(38, "drawn(0, 0) behind a REFUSED one", x.drawn(0, 0), -1);
        DUE.is(37, "status()", x.status(), 0);
        DUE.is(37, "months(1000001, 1)", x.months(1000001, 1), -1);
        DUE.is(37, "status()", x.status(), -1);
    }

    /** MONTHS against the same DAYS by calls on another object. */
    private static void likeDays(String law, int people, int seed, int days) {
        SinLenses x = law.isEmpty() ? Due.parish(people) : Due.under(law, people);
        SinLenses y = law.isEmpty() ? Due.parish(people) : Due.under(law, people);
        for (SinLenses each : new SinLenses[] {x, y}) {
            each.terms(3, 90);
            each.sin(0, 1, 7);
            each.sin(people - 1, 2, 4);
            each.glass(0, 35);
        }
        int told = x.months(seed, days);
        long s = seed;
        int often = 0;
        for (int n = 0; n < days; n++) {
            s = (s * 1103 + 12345) % 1000003;
            int person = (int) (s % people);
            s = (s * 1103 + 12345) % 1000003;
            int kind = (int) (s % 4);
            s = (s * 1103 + 12345) % 1000003;
            int what = (int) (s % 3);
            if (what == 1) {
                often += y.grind(person) >= 0 ? 1 : 0;
            } else {
                y.sin(person, kind, what == 0 ? 1 : -1);
            }
            y.pass();
        }
        DUE.is(37, "how often", told, often);
        for (int person = 0; person < people; person++) {
            for (int what = 0; what <= 4; what++) {
                DUE.is(38, "drawn(" + person + ", " + what + ")", x.drawn(person, what), y.of(person, what));
            }
        }
        DUE.is(37, "the DAY is as it was", x.count(12), 0);
        DUE.is(37, "the SINS are as they were", x.count(1), 11);
        DUE.is(37, "the GLASS is as it was", x.of(0, 5), 2);
        DUE.is(37, "nothing more can be undone", x.count(4), 0);
        DUE.is(38, "drawn(people, 0)", x.drawn(people, 0), -1);
        DUE.is(38, "drawn(-1, 0)", x.drawn(-1, 0), -1);
        DUE.is(38, "drawn(0, 5)", x.drawn(0, 5), -1);
        DUE.is(38, "drawn(0, -1)", x.drawn(0, -1), -1);
    }

    private static void atTheEnd() {
        SinLenses x = Due.under("grows 1", 1);
        x.terms(0, 997);
        x.months(5, 60);
        // Two DAYS pass; of a SIN that is not drawn two eighths come.
        int least = Math.min(Math.min(x.drawn(0, 0), x.drawn(0, 1)), Math.min(x.drawn(0, 2), x.drawn(0, 3)));
        DUE.is(37, "two DAYS alone", least, 2);
        x.terms(0, 999);
        DUE.is(37, "no DAY", x.months(5, 60), 0);
        DUE.is(38, "nothing is drawn", x.drawn(0, 0) + x.drawn(0, 1) + x.drawn(0, 2) + x.drawn(0, 3), 0);
    }

    private static void kept() {
        SinLenses x = Due.under("grows 2", 2);
        x.image(0);
        x.months(3, 4);
        int was = x.drawn(1, 3);
        x.sin(1, 3, 8);
        x.months(3, 0);
        DUE.is(38, "the latest stays behind a REFUSED one", x.drawn(1, 3), was);
        x.back(0);
        DUE.is(38, "and behind back()", x.drawn(1, 3), was);
        x.person();
        DUE.is(38, "one who came behind it", x.drawn(2, 0), -1);
    }
}
