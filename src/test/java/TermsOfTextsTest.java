/** Terms II, sentence by sentence: what both languages have in common, and LAWS. */
public final class TermsOfTextsTest {
    private static final Due DUE = new Due("TermsOfTextsTest");

    public static void main(String[] args) {
        tape();
        tokens();
        bytesBesideLetters();
        twelveClauses();
        testsAndBoths();
        plains();
        sumsAndTerms();
        parts();
        numbers();
        fiftyParts();
        fullTextsInARow();
        eightBrackets();
        faults();
        beyond();
        dividedByNone();
        askedOnlyIfItMatters();
        sixLaws();
        clausesOfLaws();
        wordsOfLaws();
        sins();
        sightLitFirst();
        askedOfKinds();
        askedOfPeople();
        holds();
        groundTo();
        groundWithout();
        grows();
        does();
        bars();
        DUE.end();
    }

    private static void tape() {
        DUE.says("TEXTS are on a TAPE of at most 400 bytes.");
        SinLenses x = Due.parish(1);
        DUE.is("of 401 the last one has no room", Due.law(x, "does 2" + Due.row(" ", "", 386) + " if 1 = 1"), -6);
        DUE.is("its end", x.fault(), 400);
        DUE.is("a LAW of 400 bytes", Due.law(x, "does 2" + Due.row(" ", "", 385) + "if 1 = 1 "), 0);
        x.force(0);
        DUE.is("what it tells", x.of(0, 10), 2);
        DUE.is("ORDERS of 400 bytes", Due.orders(x, Due.row(" ", "", 396) + "pass"), 1);
    }

    private static void tokens() {
        DUE.says("TOKENS: longest rows of letters a .. z, of digits, single other bytes, any blanks (32) between.");
        DUE.law("does1");
        DUE.law("bars;does1;grinds7if1=1and2>1or not(3<2)");
        DUE.law("   does   [   1   ]   ");
        DUE.law("^doe s 1");
        DUE.law("^doesday");
        DUE.law("^doesa 1");
        DUE.law("^doesz 1");
        DUE.law("^abars");
        DUE.law("^zbars");
        DUE.law("does 1^a");
        DUE.law("does 1^z");
        DUE.law("does ^daymood");
        DUE.law("bars if not1^x = 1");
        DUE.law("does 1 ^0");
        DUE.law("does ^1001");
        DUE.law("does 100 ^1");
        DUE.law("bars if 1 =^= 1");
        DUE.law("bars if 1 <^> 1");
        DUE.law("does [[1]]");
        DUE.law("does 1+^+1");
        DUE.orders("pass times2if1=1");
        DUE.orders("grind sins0");
        DUE.orders("grind0^with0");
    }

    private static void bytesBesideLetters() {
        DUE.says("single other bytes, any blanks (32) between");
        // Those beside a .. z, 0 .. 9, the blank; great letters; the ends of a byte.
        int[] others = {0, 1, 9, 10, 13, 31, 33, 58, 64, 65, 68, 90, 96, 123, 127, 128, 160, 200, 255};
        for (int other : others) {
            DUE.law("does 1 ^" + (char) other);
            DUE.law("^" + (char) other + "does 1");
            DUE.law("does^" + (char) other + "1");
            DUE.law("^do" + (char) other + "es 1");
        }
        DUE.law("does 1/2");
        DUE.law("does 2^:1");
    }

    private static void twelveClauses() {
        DUE.says("CLAUSE {\";\" CLAUSE}, 12 at most (FAULT at the 13th's first TOKEN)");
        String twelve = Due.row("bars", ";", 12);
        DUE.law(twelve);
        DUE.law(twelve + ";^bars");
        DUE.law(twelve + " ;  ^bars if x");
        DUE.law(twelve + ";^;");
        DUE.law(twelve + "; ^");
        DUE.law(twelve + " ^bars");
        DUE.law(Due.row("bars", ";", 11) + " ^bars;bars;bars");
        DUE.orders(Due.row("pass", ";", 12));
        DUE.orders(Due.row("pass", ";", 12) + ";^pass");
        SinLenses x = Due.under(Due.row("does 1", ";", 11) + ";does 2", 1);
        DUE.is("the twelfth counts", x.of(0, 10), 2);
        SinLenses y = new SinLenses();
        DUE.is("twelve are run", Due.orders(y, Due.row("pass", ";", 12)), 12);
        DUE.is("the DAY", y.count(12), 12);
        DUE.says("CLAUSE {\";\" CLAUSE}");
        DUE.law("^");
        DUE.law("^;bars");
        DUE.law("bars;^");
        DUE.law("bars;^;bars");
        DUE.law("bars ^bars");
    }

    private static void testsAndBoths() {
        DUE.says("TEST: BOTH {\"or\" BOTH}. BOTH: PLAIN {\"and\" PLAIN}.");
        DUE.test("1 = 1 or 1 = 2 and 1 = 2", 1);
        DUE.test("1 = 2 and 1 = 2 or 1 = 1", 1);
        DUE.test("(1 = 1 or 1 = 2) and 1 = 2", 0);
        DUE.test("1 = 2 or 1 = 2 or 1 = 1", 1);
        DUE.test("1 = 1 and 1 = 1 and 1 = 2", 0);
        DUE.test("1 = 2 or 1 = 1 and 1 = 1 or 1 = 2", 1);
        DUE.law("bars if ^or 1 = 1");
        DUE.law("bars if 1 = 1 or ^or 1 = 1");
        DUE.law("bars if 1 = 1 and ^");
        DUE.law("bars if 1 = 1 or ^and 1 = 1");
        DUE.law("bars if 1 = 1 ^1 = 1");
    }

    private static void plains() {
        DUE.says("PLAIN: \"not\" PLAIN | \"(\" TEST \")\" | SUM (\"<\" | \">\" | \"=\") SUM.");
        DUE.test("1 < 2", 1);
        DUE.test("1 < 1", 0);
        DUE.test("2 < 1", 0);
        DUE.test("2 > 1", 1);
        DUE.test("1 > 1", 0);
        DUE.test("1 > 2", 0);
        DUE.test("1 = 1", 1);
        DUE.test("1 = 2", 0);
        DUE.test("not 1 = 2", 1);
        DUE.test("not not 1 = 2", 0);
        DUE.test("not 1 = 2 and 1 = 1", 1);
        DUE.test("not 1 = 1 or 1 = 1", 1);
        DUE.test("not (1 = 1 or 1 = 1)", 0);
        DUE.test("not not (not (not 1 = 1))", 1);
        DUE.law("bars if " + Due.row("not", " ", 97) + " 1=1");
        DUE.law("bars if " + Due.row("not", " ", 98) + "^");
        DUE.law("bars if (^)");
        DUE.law("bars if (1 = 1^");
        DUE.law("bars if (1 = 1^]");
        DUE.law("bars if 1 = 1^)");
        DUE.law("bars if (1^) = 1");
        DUE.law("bars if 1 = ^(1)");
        DUE.law("bars if 1 = 1 ^= 1");
        DUE.law("bars if 1 < ^not 1 = 1");
        DUE.law("bars if 1^");
        DUE.law("bars if 1 ^if 1 = 1");
    }

    private static void sumsAndTerms() {
        DUE.says("SUM: TERM {(\"+\" | \"-\") TERM}. TERM: PART {(\"*\" | \"/\" | \"%\") PART}.");
        DUE.test("2 + 3 * 4 = 14", 1);
        DUE.test("[2 + 3] * 4 = 20", 1);
        DUE.test("20 - 5 - 3 = 12", 1);
        DUE.test("20 - 5 + 3 = 18", 1);
        DUE.test("100 / 5 / 2 = 10", 1);
        DUE.test("100 / 5 * 2 = 40", 1);
        DUE.test("7 * 5 % 4 = 3", 1);
        DUE.test("17 % 10 % 4 = 3", 1);
        DUE.test("17 - 17 % 10 / 2 = 14", 1);
        DUE.test("1 - 2 < 0", 1);
        DUE.law("does ^+ 1");
        DUE.law("does ^- 1");
        DUE.law("does 1 + ^");
        DUE.law("does 1 * ^/ 1");
        DUE.law("does 1 % ^- 1");
    }

    private static void parts() {
        DUE.says("PART: NUMBER (to 1,000) | \"[\" SUM \"]\" | a word, as told.");
        DUE.law("does [1]");
        DUE.law("does [1 + [2 - day]]");
        DUE.law("does [^]");
        DUE.law("does [1^");
        DUE.law("does [1^)");
        DUE.law("does 1^]");
        DUE.law("does ^(1)");
        DUE.law("does [1 ^= 1]");
        DUE.law("does ^x");
        DUE.law("does ^if");
        DUE.law("does ^;");
    }

    private static void numbers() {
        DUE.says("NUMBER (to 1,000)");
        DUE.law("does 0");
        DUE.law("does 999");
        DUE.law("does 1000");
        DUE.law("does ^1001");
        DUE.law("does ^10000");
        DUE.law("does ^4294967297");
        DUE.law("does ^18446744073709551617");
        DUE.law("does ^" + Due.row("9", "", 395));
        DUE.law("does " + Due.row("0", "", 391) + "1000");
        DUE.law("bars if 1 = ^1001");
        DUE.orders("grind ^1001");
        DUE.orders("grind 1000");
        DUE.test("1000 = 999 + 1", 1);
        DUE.test("0001000 = 1000", 1);
    }

    private static void fiftyParts() {
        DUE.says("50 PARTS that are NUMBERS and words (FAULT at the 51st)");
        String fortyNine = "does " + Due.row("1", "+", 49);
        DUE.law(fortyNine + "+1");
        DUE.law(fortyNine + "+day");
        DUE.law(fortyNine + "+1+^1");
        DUE.law(fortyNine + "+day+^day");
        DUE.law(fortyNine + "+[[1]]");
        DUE.law(fortyNine + "+1+[[^1]]");
        DUE.law(fortyNine + "+1;bars");
        DUE.law(fortyNine + "+1;bars if ^1 = 1");
        DUE.law(fortyNine + " if 1 = ^1");
        DUE.law(fortyNine + "+1+^1001");
        DUE.law(fortyNine + "+1+^x");
        DUE.law(Due.row("bars if 1 = 1", ";", 12) + ";^bars");
        DUE.law("bars if " + Due.row("1=1", "and ", 25));
        DUE.law("bars if " + Due.row("1=1", "and ", 25) + "or ^1=1");
        DUE.orders("grind " + Due.row("day", "+", 50));
        DUE.orders("grind " + Due.row("day", "+", 50) + "+^day");
        SinLenses x = Due.under("does 0; does 3 if " + Due.row("1", "+", 47) + " = 47", 1);
        DUE.is("all fifty are asked", x.of(0, 10), 3);
    }

    /** Each TEXT by itself: nothing that was read, run or refused earlier counts for the next one. */
    private static void fullTextsInARow() {
        DUE.says("50 PARTS that are NUMBERS and words");
        SinLenses x = Due.parish(1);
        x.image(0);
        String fortyNine = Due.row("1", "+", 49);
        for (int n = 0; n < 12; n++) {
            DUE.is("ORDERS of 50 PARTS", Due.orders(x, "pass if " + fortyNine + "=49"), 1);
            DUE.is("ORDERS of 51 PARTS", Due.orders(x, "pass if " + fortyNine + "+1=50"), -6);
            x.back(0);
            DUE.is("a LAW of 50 PARTS", Due.law(x, "does " + fortyNine + "-47"), 0);
            x.force(0);
            DUE.is("what it tells", x.of(0, 10), 2);
        }
    }

    private static void eightBrackets() {
        DUE.says("8 brackets of both kinds within one another (FAULT at the 9th) at most");
        DUE.law("does [[[[[[[[1]]]]]]]]");
        DUE.law("does [[[[[[[[^[1]]]]]]]]]");
        DUE.law("bars if ((((((((1=1))))))))");
        DUE.law("bars if ((((((((^(1=1)))))))))");
        DUE.law("bars if (((([[[[1]]]]=1))))");
        DUE.law("bars if (((([[[[^[1]]]]]=1))))");
        DUE.law("bars if (((((((1=[1])))))))");
        DUE.law("bars if ((((((((^[1]=1))))))))");
        DUE.law("bars if ((((((((1=1))))))))and((((((((1=1))))))))");
        DUE.law("does [[[[[[[[1]]]]]]]]+[[[[[[[[1]]]]]]]]");
        DUE.law("does " + Due.row("[1]", "+", 50));
        DUE.law("bars if [[[[[[[[1]]]]]]]]=[[[[[[[[^[1");
        DUE.law("bars if not(not(not(not(not(not(not(not(1=1))))))))");
        DUE.law("bars if not(not(not(not(not(not(not(not(not ^(1=1)))))))))");
        DUE.orders("grind [[[[[[[[1]]]]]]]]");
        DUE.orders("grind [[[[[[[[^[1]]]]]]]]]");
        DUE.orders("sin [[[[[[[[1]]]]]]]] of [[[[[[[[1]]]]]]]] if ((((((((1=1))))))))");
        DUE.orders("sin [[[[[[[[1]]]]]]]] of [[[[[[[[^[1]]]]]]]]]");
        DUE.orders("sin 1 of 1 if ((((((((^(1=1)))))))))");
        DUE.orders("swap [[[[[[[[1]]]]]]]] with [[[[[[[[2]]]]]]]]");
        DUE.orders("swap 1 with [[[[[[[[^[2]]]]]]]]]");
        // Two numbers wait ahead of each bracket: the most that ever wait.
        DUE.test("1+2*[1+2*[1+2*[1+2*[1+2*[1+2*[1+2*[1+2*[1+2]]]]]]]]>0", 1);
        DUE.test("1+2*[1+2*[1+2*[1+2*[1+2*[1+2*[1+2*[1+2*3]]]]]]]=1000+23", 1);
    }

    private static void faults() {
        DUE.says("FAULT: the first TOKEN that can't go on there (the end's: the TEXT's length).");
        DUE.law("^");
        DUE.law("   ^");
        DUE.law("does^");
        DUE.law("does  ^");
        DUE.law("does 1 +^");
        DUE.law("does 1 if^");
        DUE.law("does 1 if 1 =^");
        DUE.law("does 1;   ^");
        DUE.law("^x ; y");
        DUE.law("does ^x y z");
        DUE.law("bars;bars;^x");
        DUE.law("bars;^");
        DUE.law("bars" + Due.row(" ", "", 396));
        DUE.law("bars;" + Due.row(" ", "", 395) + "^");
        DUE.law(Due.row(" ", "", 400) + "^");
        DUE.law(Due.row(" ", "", 399) + "^x");
    }

    private static void beyond() {
        DUE.says("Beyond 1,000,000,000 either way");
        String most = "1000 * 1000 * 1000";
        DUE.test(most + " > 0", 1);
        DUE.test(most + " + 1 > 0", -1);
        DUE.test(most + " - 1 > 0", 1);
        DUE.test("0 - " + most + " < 0", 1);
        DUE.test("0 - " + most + " - 1 < 0", -1);
        DUE.test("0 - " + most + " + 1 < 0", 1);
        DUE.test(most + " + 1 - 1 > 0", -1);
        DUE.test(most + " - 1 + 1 > 0", 1);
        DUE.test(most + " * 2 / 2 > 0", -1);
        DUE.test(most + " / 2 * 2 > 0", 1);
        DUE.test(most + " * 0 = 0", 1);
        DUE.test("[0 - " + most + "] * [0 - 1] > 0", 1);
        DUE.test(most + " * [" + most + "] > 0", -1);
        DUE.test("[0 - " + most + "] * [" + most + "] < 0", -1);
        DUE.test(Due.row("1000", "*", 24) + " > 0", -1);
        DUE.test("1 < [" + most + " + 1]", -1);
        DUE.test(most + " = " + most, 1);
    }

    private static void dividedByNone() {
        DUE.says("divided by 0 (/ cut towards 0, % what is left then), a SUM, a TEST is BROKEN");
        DUE.test("1 / 0 = 0", -1);
        DUE.test("0 / 0 = 0", -1);
        DUE.test("1 % 0 = 0", -1);
        DUE.test("0 % 0 = 0", -1);
        DUE.test("0 / 1 = 0", 1);
        DUE.test("0 % 1 = 0", 1);
        DUE.test("1 / [2 - 2] = 0", -1);
        DUE.test("0 * [1 / 0] = 0", -1);
        DUE.test("not 1 / 0 = 0", -1);
        DUE.test("7 / 2 = 3 and 7 % 2 = 1", 1);
        DUE.test("[0 - 7] / 2 = 0 - 3 and [0 - 7] % 2 = 0 - 1", 1);
        DUE.test("7 / [0 - 2] = 0 - 3 and 7 % [0 - 2] = 1", 1);
        DUE.test("[0 - 7] / [0 - 2] = 3 and [0 - 7] % [0 - 2] = 0 - 1", 1);
        DUE.test("1 / 2 = 0 and [0 - 1] / 2 = 0", 1);
    }

    private static void askedOnlyIfItMatters() {
        DUE.says("\"or\", \"and\" ask what stands behind only if it can still matter");
        DUE.test("1 = 1 or 1 / 0 = 1", 1);
        DUE.test("1 = 2 or 1 / 0 = 1", -1);
        DUE.test("1 = 2 and 1 / 0 = 1", 0);
        DUE.test("1 = 1 and 1 / 0 = 1", -1);
        DUE.test("1 / 0 = 1 or 1 = 1", -1);
        DUE.test("1 / 0 = 1 and 1 = 2", -1);
        DUE.test("1 = 1 or 1 = 2 or 1 / 0 = 1", 1);
        DUE.test("1 = 2 and 1 = 1 and 1 / 0 = 1", 0);
        DUE.test("1 = 2 and 1 / 0 = 1 or 1 = 1", 1);
        DUE.test("1 = 2 and 1 / 0 = 1 or 1 % 0 = 1", -1);
        DUE.test("1 = 1 or 1 = 1 and 1 / 0 = 1", 1);
        DUE.test("1 = 1 and (1 = 1 or 1 / 0 = 1)", 1);
        DUE.test("(1 = 2 and 1 / 0 = 1) or 1 = 2", 0);
        DUE.test("not (1 = 1 or 1 / 0 = 1)", 0);
        DUE.test("not 1 = 1 and 1 / 0 = 1", 0);
        DUE.test("1 = 1 and 1 = 2 or 1 = 2 and 1 / 0 = 1", 0);
    }

    private static void sixLaws() {
        DUE.says("LAWS, 6 at most; one is in FORCE (NONE at first: no CLAUSE)");
        SinLenses x = Due.parish(1);
        DUE.is("at first", x.count(11), -1);
        for (int law = 0; law < 6; law++) {
            DUE.is("LAW " + law, Due.law(x, "does " + (law + 1) % 4 + "; bars"), law);
            DUE.is("it is not in FORCE by itself", x.count(11), -1);
        }
        DUE.is("no CLAUSE: nobody is BARRED", x.of(0, 12), 0);
        DUE.is("the seventh", Due.law(x, "does 1"), -5);
        DUE.is("how many", x.count(3), 6);
        for (int law = 5; law >= 0; law--) {
            x.force(law);
            DUE.is("what LAW " + law + " tells", x.of(0, 10), (law + 1) % 4);
        }
    }

    private static void clausesOfLaws() {
        DUE.says("CLAUSE: ((\"grinds\" | \"grows\" | \"does\") SUM | \"bars\") [\"if\" TEST]");
        DUE.law("grinds 1");
        DUE.law("grows 1");
        DUE.law("does 1");
        DUE.law("bars");
        DUE.law("grinds 1 if 1 = 1; grows 1 if 1 = 1; does 1 if 1 = 1; bars if 1 = 1");
        DUE.law("grinds ^if 1 = 1");
        DUE.law("grinds^");
        DUE.law("grows ^;");
        DUE.law("bars ^1");
        DUE.law("bars if^");
        DUE.law("bars if 1 = 1 ^if 1 = 1");
        DUE.law("does 1 ^= 1");
        DUE.law("does 1 ^times 2");
        for (String verb : new String[] {"sin", "grind", "swap", "cloth", "pass", "if", "1", "grow", "bar", "person"}) {
            DUE.law("^" + verb + " 1");
        }
    }

    private static void wordsOfLaws() {
        DUE.says("Words: \"person\" | \"kind\" | \"sin\" | \"sins\" | \"sight\" | \"lit\" | \"first\" | \"day\" | \"mood\".");
        for (String word : new String[] {"person", "kind", "sin", "sins", "sight", "lit", "first", "day", "mood"}) {
            DUE.law("grinds " + word + "; bars if " + word + " = " + word);
            DUE.law("grinds " + word + " ^0");
        }
        for (String word : new String[] {"done", "latest", "scene", "does", "grinds", "bars", "of", "with", "times", "not", "or", "lits"}) {
            DUE.law("grinds ^" + word);
        }
        SinLenses x = Due.under("does 0; does 1 if day = 999; does 2 if mood = 9; does 3 if day = 999 and mood = 9", 1);
        x.terms(0, 999);
        DUE.is("day", x.of(0, 10), 1);
        x.terms(2, 9);
        DUE.is("day and mood", x.of(0, 10), 3);
        x.terms(0, 0);
        DUE.is("mood", x.of(0, 10), 2);
    }

    private static void sins() {
        DUE.says("sins: all SINS of the PERSON together");
        SinLenses x = Due.under("does 0; does 1 if sins = 32; does 2 if sins = 31; grows 0 - 1 if sins = 32", 2);
        DUE.is("none", x.of(0, 10), 0);
        for (int kind = 0; kind < 4; kind++) {
            x.sin(1, kind, 8);
        }
        DUE.is("all", x.of(1, 10), 1);
        DUE.is("of another", x.of(0, 10), 0);
        DUE.is("asked of a KIND, too", x.asks(1, 2, 1), -1);
        x.sin(1, 3, -1);
        DUE.is("all but one", x.of(1, 10), 2);
    }

    private static void sightLitFirst() {
        DUE.says("sight: what it SEES, lit: how many CELLS of that are lit, first: the lowest of these (8: none)");
        int[] scenes = {0, 1, 128, 255, 254, 192, 64, 40};
        int[] lit = {0, 1, 1, 8, 7, 2, 1, 2};
        int[] first = {8, 0, 7, 0, 1, 6, 6, 3};
        for (int n = 0; n < scenes.length; n++) {
            SinLenses x = Due.under("does 0; does 3 if sight = " + scenes[n] + " and lit = " + lit[n] + " and first = " + first[n], 1);
            x.terms(3, scenes[n]);
            DUE.is("of " + scenes[n], x.of(0, 10), 3);
            // Turned round twice it is the same, by LENSES.
            x.glass(0, 3);
            x.terms(3, x.of(0, 9));
            DUE.is("of " + scenes[n] + " by a LENS", x.of(0, 10), 3);
        }
    }

    private static void askedOfKinds() {
        DUE.says("\"grinds\", \"grows\" are asked of a PERSON and a KIND (sin: its SIN of that; sight, lit, first -1)");
        SinLenses x = Due.under("grinds 7 if sight = 0 - 1 and lit = 0 - 1 and first = 0 - 1; grows person * 4 + kind - 4 + sin", 2);
        x.terms(3, 255);
        x.sin(1, 2, 3);
        for (int kind = 0; kind < 4; kind++) {
            DUE.is("-1 for KIND " + kind, x.asks(1, kind, 0), 7);
            DUE.is("of PERSON 0, KIND " + kind, x.asks(0, kind, 1), kind - 4);
            DUE.is("of PERSON 1, KIND " + kind, x.asks(1, kind, 1), kind == 2 ? 5 : kind);
        }
        SinLenses y = Due.under("grinds mood; grows day", 1);
        DUE.is("mood, day at first", y.asks(0, 0, 0) * 10 + y.asks(0, 0, 1), 0);
        y.terms(2, 5);
        y.terms(0, 7);
        DUE.is("mood, day", y.asks(0, 0, 0) * 10 + y.asks(0, 0, 1), 57);
    }

    private static void askedOfPeople() {
        DUE.says("\"does\", \"bars\" of a PERSON (kind, sin -1)");
        SinLenses x = Due.under("does 0; does 3 if kind = 0 - 1 and sin = 0 - 1 and person = 1;"
            + "bars if kind = 0 - 1 and sin = 0 - 1 and person = 0", 2);
        x.sin(0, 0, 2);
        x.sin(1, 0, 2);
        DUE.is("does 0", x.of(0, 10), 0);
        DUE.is("does 1", x.of(1, 10), 3);
        DUE.is("bars 0", x.of(0, 12), 1);
        DUE.is("bars 1", x.of(1, 12), 0);
    }

    private static void holds() {
        DUE.says("A CLAUSE HOLDS, if its \"if\" (if it has one) is so, and neither that nor its SUM is BROKEN.");
        String[] laws = {"does 2", "does 2 if 1 = 1", "does 2 if 1 = 2", "does 2 if 1 / 0 = 1", "does 2 / 0", "does 2 / 0 if 1 = 1",
            "does 2 if not 1 / 0 = 1", "does 1000 * 1000 * 1000 + 1", "does 1000 * 1000 * 1000"};
        int[] want = {2, 2, 1, 1, 1, 1, 1, 1, 3};
        for (int n = 0; n < laws.length; n++) {
            DUE.is(laws[n], does(laws[n], 1), want[n]);
            DUE.is("the one ahead of " + laws[n], does("does 0;" + laws[n], 1), want[n] == 1 ? 0 : want[n]);
        }
    }

    private static int does(String law, int scene) {
        SinLenses x = Due.under(law, 1);
        x.terms(3, scene);
        return x.of(0, 10);
    }

    private static int grinds(String sum) {
        return Due.under("grinds " + sum, 1).asks(0, 0, 0);
    }

    private static void groundTo() {
        DUE.says("GROUND to the LENS 0 .. 7 that the last \"grinds\" that HOLDS tells (else the nearest)");
        DUE.is("grinds 0", grinds("0"), 0);
        DUE.is("grinds 7", grinds("7"), 7);
        DUE.is("grinds 8", grinds("8"), 7);
        DUE.is("grinds 0 - 1", grinds("0 - 1"), 0);
        DUE.is("grinds the most", grinds("1000 * 1000 * 1000"), 7);
        DUE.is("grinds the least", grinds("0 - 1000 * 1000 * 1000"), 0);
        DUE.is("the last of three", grinds("1; grinds 2; grinds 3"), 3);
        DUE.is("the last that HOLDS", grinds("1; grinds 2; grinds 3 if 1 = 2"), 2);
        DUE.is("the last that is not BROKEN", grinds("1; grinds 2 / 0; grinds 3 % 0"), 1);
        DUE.is("other CLAUSES do not count", grinds("1; grows 2; does 3; bars"), 1);
    }

    private static void groundWithout() {
        DUE.says("without to KIND and 1, if it is 4 or more, else to 0");
        SinLenses x = Due.under("grows 1; grinds 7 if 1 = 2", 1);
        for (int kind = 0; kind < 4; kind++) {
            DUE.is("at 0", x.asks(0, kind, 0), 0);
            x.sin(0, kind, 3);
            DUE.is("at 3", x.asks(0, kind, 0), 0);
            x.sin(0, kind, 1);
            DUE.is("at 4", x.asks(0, kind, 0), kind + 1);
            x.sin(0, kind, 4);
            DUE.is("at 8", x.asks(0, kind, 0), kind + 1);
        }
    }

    private static int growsBy(String sum) {
        return Due.under("grows " + sum, 1).asks(0, 0, 1);
    }

    private static void grows() {
        DUE.says("it GROWS by -8 .. 8 a DAY, 0 without");
        DUE.is("grows 8", growsBy("8"), 8);
        DUE.is("grows 9", growsBy("9"), 8);
        DUE.is("grows 0 - 8", growsBy("0 - 8"), -8);
        DUE.is("grows 0 - 9", growsBy("0 - 9"), -8);
        DUE.is("grows the most", growsBy("1000 * 1000 * 1000"), 8);
        DUE.is("grows the least", growsBy("0 - 1000 * 1000 * 1000"), -8);
        DUE.is("grows 0", growsBy("0"), 0);
        DUE.is("the last that HOLDS", growsBy("1; grows 0 - 2; grows 3 if 1 = 2"), -2);
        DUE.is("BROKEN", growsBy("1 / 0"), 0);
        DUE.is("without", Due.under("grinds 1", 1).asks(0, 0, 1), 0);
        DUE.is("without LAW", Due.parish(1).asks(0, 0, 1), 0);
    }

    private static void does() {
        DUE.says("a PERSON DOES 0 .. 3, lit % 4 without");
        DUE.is("does 3", does("does 3", 0), 3);
        DUE.is("does 4", does("does 4", 0), 3);
        DUE.is("does 0", does("does 0", 1), 0);
        DUE.is("does 0 - 1", does("does 0 - 1", 1), 0);
        DUE.is("does the most", does("does 1000 * 1000 * 1000", 0), 3);
        DUE.is("does the least", does("does 0 - 1000 * 1000 * 1000", 1), 0);
        for (int lit = 0; lit <= 8; lit++) {
            DUE.is("without, of " + lit + " lit", does("grows 1", (1 << lit) - 1), lit % 4);
        }
    }

    private static void bars() {
        DUE.says("one is BARRED from grinding, if \"bars\" HOLDS");
        String[] laws = {"bars", "bars if person = 0", "bars if person = 1", "bars if 1 / 0 = 1", "bars; bars if 1 = 2", "does 1"};
        int[] want = {1, 1, 0, 0, 1, 0};
        for (int n = 0; n < laws.length; n++) {
            SinLenses x = Due.under(laws[n], 1);
            DUE.is(laws[n], x.of(0, 12), want[n]);
            DUE.is("grind() under " + laws[n], x.grind(0), want[n] == 1 ? -3 : 0);
        }
    }
}
