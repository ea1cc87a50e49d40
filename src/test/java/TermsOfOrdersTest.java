/** Terms II, sentence by sentence: ORDERS. */
public final class TermsOfOrdersTest {
    private static final Due DUE = new Due("TermsOfOrdersTest");

    public static void main(String[] args) {
        clauses();
        whatTheyDo();
        times();
        words();
        peopleOfWords();
        parts();
        clauseByClause();
        onceWithout();
        askedEachTime();
        brokenIf();
        done();
        latest();
        nobody();
        brokenSums();
        refusedDeeds();
        asItWas();
        DUE.end();
    }

    private static void clauses() {
        DUE.says("CLAUSE: (\"sin\" SUM \"of\" SUM | \"grind\" SUM | \"swap\" SUM \"with\" SUM | \"cloth\" SUM | \"pass\") [\"times\" TIMES] [\"if\" TEST].");
        DUE.orders("sin 0 of 1; grind 0; swap 0 with 1; cloth 0; pass");
        DUE.orders("sin 0 of 1 times 2 if 1 = 1; grind 0 times 2 if 1 = 1; pass times 2 if 1 = 1");
        DUE.orders("swap 0 with 1 times 2 if 1 = 1; cloth 0 times 2 if 1 = 1");
        DUE.orders("^");
        DUE.orders("sin^");
        DUE.orders("sin ^of 1");
        DUE.orders("sin 0^");
        DUE.orders("sin 0 ^with 1");
        DUE.orders("sin 0 ^1");
        DUE.orders("sin 0 of^");
        DUE.orders("sin 0 of ^times 2");
        DUE.orders("grind^");
        DUE.orders("grind ^if 1 = 1");
        DUE.orders("grind 0 ^of 1");
        DUE.orders("swap 0^");
        DUE.orders("swap 0 ^of 1");
        DUE.orders("swap 0 with^");
        DUE.orders("swap 0 with ^;");
        DUE.orders("cloth^");
        DUE.orders("cloth 0 ^with 1");
        DUE.orders("pass ^0");
        DUE.orders("pass if 1 = 1 ^times 2");
        DUE.orders("pass times 2 ^times 2");
        DUE.orders("pass if 1 = 1 ^if 1 = 1");
        DUE.orders("pass times 2 if^");
        for (String verb : new String[] {"grinds 1", "grows 1", "does 1", "bars", "if 1 = 1", "sins 1", "times 2", "1", "Pass"}) {
            DUE.orders("^" + verb);
        }
    }

    private static void whatTheyDo() {
        DUE.says("(a PERSON, one eighth more of a KIND; a PERSON; two PEOPLE; a PERSON; a DAY.)");
        SinLenses x = Due.parish(2);
        x.terms(3, 1);
        DUE.is("sin", Due.orders(x, "sin 1 of 3 times 7"), 7);
        DUE.is("the SIN of the PERSON, of the KIND", x.of(1, 3), 7);
        DUE.is("no other", x.count(1), 7);
        DUE.is("grind", Due.orders(x, "grind 1"), 1);
        DUE.is("of the PERSON", x.of(1, 5), 4);
        DUE.is("swap", Due.orders(x, "swap 0 with 1"), 1);
        DUE.is("both", x.of(0, 4) * 10 + x.of(1, 4), 10);
        DUE.is("cloth", Due.orders(x, "cloth 0"), 1);
        DUE.is("of the PERSON", x.of(0, 4), 0);
        DUE.is("pass", Due.orders(x, "pass"), 1);
        DUE.is("a DAY", x.count(12), 1);
        int[] undone = {4, 3, 2, 1, 0};
        for (int which : undone) {
            DUE.is("it can be undone", x.undo(), which);
        }
    }

    private static void times() {
        DUE.says("TIMES: a NUMBER 1 .. 20.");
        DUE.orders("pass times ^0");
        DUE.orders("pass times 1");
        DUE.orders("pass times 20");
        DUE.orders("pass times ^21");
        DUE.orders("pass times ^1000");
        DUE.orders("pass times ^4294967297");
        DUE.orders("pass times ^day");
        DUE.orders("pass times ^[2]");
        DUE.orders("pass times 2 ^+ 1");
        DUE.orders("pass times^");
        DUE.orders("pass times ^if 1 = 1");
        DUE.is("once", Due.orders(new SinLenses(), "pass times 1"), 1);
        DUE.is("twenty times", Due.orders(new SinLenses(), "pass times 20"), 20);
        DUE.is("as often as can be", Due.orders(new SinLenses(), Due.row("pass times 20", ";", 12)), 240);
    }

    private static void words() {
        DUE.says("Words: \"day\" | \"done\" | \"latest\" | \"scene\" | \"sins\" P | \"sight\" P | \"does\" P (P: a NUMBER 0 .. 5).");
        DUE.orders("grind day + done + latest + scene + sins 0 + sight 0 + does 0");
        DUE.orders("grind day ^0");
        DUE.orders("grind scene ^0");
        for (String word : new String[] {"person", "kind", "sin", "lit", "first", "mood", "pass", "of", "grind", "times"}) {
            DUE.orders("grind ^" + word);
        }
        for (String word : new String[] {"sins", "sight", "does"}) {
            DUE.orders("grind " + word + " 0");
            DUE.orders("grind " + word + " 5");
            DUE.orders("grind " + word + " ^6");
            DUE.orders("grind " + word + " ^1001");
            DUE.orders("grind " + word + " ^day");
            DUE.orders("grind " + word + " ^[0]");
            DUE.orders("grind " + word + " ^+ 1");
            DUE.orders("grind " + word + "^");
            DUE.orders("grind " + word + " 0 ^0");
        }
    }

    private static int so(SinLenses x, String test) {
        return Due.orders(x, "pass if " + test);
    }

    private static void peopleOfWords() {
        DUE.says("\"sins\" P | \"sight\" P | \"does\" P");
        SinLenses x = Due.under("does 3 - person / 2", 6);
        for (int person = 0; person < 6; person++) {
            x.glass(person, person + 2);
        }
        x.terms(3, 37);
        for (int person = 0; person < 6; person++) {
            x.sin(person, person % 4, person);
        }
        for (int p = 0; p < 6; p++) {
            DUE.is("sins " + p, so(x, "sins " + p + " = " + p), 1);
            DUE.is("sight " + p, so(x, "sight " + p + " = " + Due.lens(p + 1, 37)), 1);
            DUE.is("does " + p, so(x, "does " + p + " = " + (3 - p / 2)), 1);
        }
        DUE.is("day", so(x, "day = 18"), 1);
        DUE.is("scene", so(x, "scene = 37"), 1);
        x.terms(0, 998);
        x.terms(3, 255);
        DUE.is("day, scene at their most", so(x, "day = 998 and scene = 255"), 1);
        SinLenses fresh = Due.under("does 3 - person / 2", 6);
        DUE.is("several in one CLAUSE", so(fresh, "does 0 + does 1 + does 2 + does 3 + does 4 + does 5 = 12"), 1);
    }

    private static void parts() {
        DUE.says("P, TIMES aside, NUMBERS and words count as PARTS.");
        String fifty = "grind " + Due.row("does 0", "+", 50);
        DUE.orders(fifty);
        DUE.orders(fifty + " times 20");
        DUE.orders(fifty + "+ ^does 0");
        DUE.orders(fifty + "; pass times 2; pass");
        DUE.orders(fifty + "; pass if ^1 = 1");
        DUE.orders("sin " + Due.row("1", "+", 25) + " of " + Due.row("day", "+", 25));
        DUE.orders("sin " + Due.row("1", "+", 25) + " of " + Due.row("day", "+", 25) + "+^day");
        DUE.orders("swap 0 with " + Due.row("1", "+", 47) + " times 1 if done > 1");
        DUE.orders("swap 0 with " + Due.row("1", "+", 48) + " times 1 if done > ^1");
    }

    private static void clauseByClause() {
        DUE.says("Run CLAUSE by CLAUSE");
        SinLenses x = Due.parish(2);
        x.glass(0, 12);
        // The swap is ahead of the cloth: else 0 had something to take off, 1 had not.
        DUE.is("orders()", Due.orders(x, "swap 0 with 1; cloth 1; swap 0 with 1"), 3);
        DUE.is("the other way round", Due.orders(x, "cloth 1; swap 0 with 1"), -3);
        SinLenses y = Due.parish(1);
        DUE.is("each behind the other", Due.orders(y, "pass if day = 0; pass if day = 1; pass if day = 0; pass if day = 2"), 3);
    }

    private static void onceWithout() {
        DUE.says("each as often as TIMES tell (once without)");
        SinLenses x = Due.parish(1);
        DUE.is("orders()", Due.orders(x, "pass; sin 0 of 0 times 3; pass; sin 0 of 1 times 2"), 7);
        DUE.is("the DAY", x.count(12), 2);
        DUE.is("KIND 0", x.of(0, 0), 3);
        DUE.is("KIND 1", x.of(0, 1), 2);
    }

    private static void askedEachTime() {
        DUE.says("each time its \"if\" is asked (not run, if it is not so or BROKEN), then its SUMS from the left");
        SinLenses x = Due.parish(1);
        DUE.is("until it is not so", Due.orders(x, "pass times 20 if day < 3"), 3);
        DUE.is("until it is so", Due.orders(x, "sin 0 of 0 times 20 if sins 0 < 8"), 8);
        DUE.is("SUMS are asked each time", Due.orders(x, "sin 0 of done + 1 times 3"), 3);
        DUE.is("KINDS 1, 2, 3", x.of(0, 1) * 100 + x.of(0, 2) * 10 + x.of(0, 3), 111);
        DUE.is("its SUMS are asked behind it", Due.orders(x, "grind 1 / 0 if 1 = 2; sin 9 of 9 if day = 9"), 0);
        // A LAW is asked of what stands then.
        SinLenses y = Due.under("does sins", 1);
        DUE.is("does is asked each time", Due.orders(y, "sin 0 of 0 times 5 if does 0 < 2"), 2);
        SinLenses z = Due.parish(2);
        z.terms(3, 1);
        z.glass(0, 4);
        DUE.is("sight is asked each time", Due.orders(z, "swap 0 with 1 times 5 if sight 0 = 2"), 1);
    }

    private static void brokenIf() {
        DUE.says("not run, if it is not so or BROKEN");
        SinLenses x = Due.parish(1);
        DUE.is("not so", Due.orders(x, "pass if 1 = 2"), 0);
        DUE.is("BROKEN", Due.orders(x, "pass if 1 / 0 = 1"), 0);
        DUE.is("its not is BROKEN, too", Due.orders(x, "pass if not 1 / 0 = 1"), 0);
        DUE.is("BROKEN by what is beyond", Due.orders(x, "pass if 1000 * 1000 * 1000 + 1 > 0"), 0);
        DUE.is("it goes on behind it", Due.orders(x, "pass times 3 if 1 / [day - 1] < 0; pass"), 2);
        DUE.is("no ORDERS stopped", x.stopped(), -1);
        DUE.is("status()", x.status(), 0);
        DUE.is("the DAY", x.count(12), 2);
        DUE.is("\"or\" asks only if it matters", Due.orders(x, "pass if 1 = 1 or 1 / 0 = 1"), 1);
        DUE.is("\"and\" asks only if it matters", Due.orders(x, "pass if not (1 = 2 and 1 / 0 = 1)"), 1);
    }

    private static void done() {
        DUE.says("done: how many were run in this TEXT");
        SinLenses x = Due.parish(1);
        DUE.is("0 at first", so(x, "done = 0"), 1);
        DUE.is("0 in the next TEXT", so(x, "done = 0"), 1);
        DUE.is("each time one more", Due.orders(x, "pass times 20 if done < 7"), 7);
        DUE.is("not what was not run", Due.orders(x, "pass; pass times 9 if 1 = 2; pass if done = 1; sin 0 of 0 if done = 2"), 3);
    }

    private static void latest() {
        DUE.says("latest: what the latest grind in it told (-1: none)");
        SinLenses x = Due.parish(2);
        DUE.is("-1 at first", so(x, "latest = 0 - 1"), 1);
        DUE.is("0 LENSES", Due.orders(x, "grind 0; pass if latest = 0"), 2);
        DUE.is("-1 in the next TEXT", so(x, "latest = 0 - 1"), 1);
        for (int kind = 0; kind < 4; kind++) {
            x.sin(0, kind, 4);
        }
        DUE.is("4 LENSES", Due.orders(x, "grind 0; pass if latest = 4"), 2);
        DUE.is("the latest of two", Due.orders(x, "grind 0; grind 1; pass if latest = 0; grind 0; pass if latest = 4"), 5);
        DUE.is("other deeds do not count", Due.orders(x, "grind 0; cloth 0; sin 1 of 0; swap 0 with 1; pass if latest = 4"), 5);
        DUE.is("nor one that is not run", Due.orders(x, "grind 0 if 1 = 2; pass if latest = 0 - 1"), 1);
    }

    private static void nobody() {
        DUE.says("sins, sight, does: -1 without such a PERSON");
        for (int people = 0; people <= 6; people++) {
            SinLenses x = Due.parish(people);
            for (int p = 0; p < 6; p++) {
                int want = p >= people ? 1 : 0;
                DUE.is(p + " of " + people, so(x, "sins " + p + " = 0 - 1 and sight " + p + " = 0 - 1 and does " + p + " = 0 - 1"), want);
                DUE.is(p + " of " + people, so(x, "sins " + p + " = 0 and sight " + p + " = 0 and does " + p + " = 0"), 1 - want);
            }
        }
    }

    private static void stops(String orders, int clause) {
        SinLenses x = Due.under("bars if person = 1", 2);
        x.glass(0, 2);
        DUE.is(orders, Due.orders(x, orders), -3);
        DUE.is("stopped() of " + orders, x.stopped(), clause);
    }

    private static void brokenSums() {
        DUE.says("One that can't be (a BROKEN SUM");
        stops("sin 1 / 0 of 0", 0);
        stops("sin 0 of 1 / 0", 0);
        stops("grind 0 % 0", 0);
        stops("swap 0 / 0 with 1", 0);
        stops("swap 0 with 0 / 0", 0);
        stops("cloth 1 / 0", 0);
        stops("pass; cloth 1000 * 1000 * 1000 * 2", 1);
        stops("pass; grind 0 - 1000 * 1000 * 1000 - 1", 1);
        stops("pass times 2; sin 0 of 2 / [2 - done] times 5", 1);
    }

    private static void refusedDeeds() {
        DUE.says("as sin(), grind(), swap(), cloth(), pass() are REFUSED) ends it");
        stops("sin 0 of 0 times 9", 0);
        stops("sin 0 of 4", 0);
        stops("sin 0 of 0 - 1", 0);
        stops("sin 2 of 0", 0);
        stops("sin 0 - 1 of 0", 0);
        stops("sin 1000 * 1000 * 1000 of 0", 0);
        stops("grind 1", 0);
        stops("grind 2", 0);
        stops("swap 0 with 0", 0);
        stops("swap 0 with 2", 0);
        stops("swap 2 with 0", 0);
        stops("cloth 1", 0);
        stops("cloth 0; cloth 0", 1);
        stops("cloth 0 times 2", 0);
        stops("cloth 6", 0);
        stops(Due.row("pass", ";", 11) + ";cloth 1", 11);
        SinLenses x = new SinLenses();
        x.terms(0, 998);
        DUE.is("pass at 999", Due.orders(x, "pass; pass"), -3);
        DUE.is("stopped()", x.stopped(), 1);
        DUE.is("pass at 998", Due.orders(x, "pass"), 1);
    }

    private static void asItWas() {
        DUE.says("all is as it was ahead of it");
        SinLenses x = Due.under("grows 1; grinds 3", 2);
        x.glass(1, 57);
        x.saw(1, 9);
        x.sin(0, 0, 3);
        x.cloth(1);
        x.pass();
        String ahead = Due.shape(x);
        int[] counts = {x.count(4), x.count(6), x.count(7)};
        DUE.is("orders()", Due.orders(x, "sin 0 of 1 times 2; grind 0; swap 0 with 1; cloth 1; pass times 20; sin 9 of 9"), -3);
        DUE.is("what an IMAGE keeps", Due.shape(x).equals(ahead) ? 1 : 0, 1);
        DUE.is("what can be undone", x.count(4), counts[0]);
        DUE.is("what stopped it is not counted by itself", x.count(6) + x.count(7), counts[1] + counts[2]);
        DUE.is("-3 is, once", x.count(8), 1);
        DUE.is("the TAPE is empty", x.count(5), 0);
        DUE.is("the DAY is undone", x.undo(), 4);
        DUE.is("the CLOTH is undone", x.undo(), 3);
        DUE.is("the GLASS", x.of(1, 5) * 10 + x.of(1, 6), 46);
        DUE.is("the SIN is undone", x.undo(), 0);
        DUE.is("no SINS", x.count(1), 0);
        DUE.is("no more", x.undo(), -3);
    }
}
