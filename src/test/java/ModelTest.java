import java.util.Random;

/** Runs of drawn calls on the class and on Model: each answer is the same. With an argument: so many runs. */
public final class ModelTest {
    private static final Due DUE = new Due("ModelTest");
    private static final int CALLS = 500;

    private final Random random;
    private final SinLenses x = new SinLenses();
    private final Model y = new Model();
    private final Writer writer;
    private final int run;
    private int calls;

    private ModelTest(int run) {
        this.run = run;
        random = new Random(run);
        writer = new Writer(random);
    }

    public static void main(String[] args) {
        int runs = args.length > 0 ? Integer.parseInt(args[0]) : 1000;
        for (int run = 0; run < runs; run++) {
            new ModelTest(run).go();
        }
        DUE.end();
    }

    private void go() {
        for (int n = random.nextInt(7); n > 0; n--) {
            same("person()", x.person(), y.person());
        }
        while (calls < CALLS) {
            int sort = random.nextInt(100);
            if (sort < 12 && calls + 30 < CALLS) {
                text();
            } else if (sort < 50) {
                change(random.nextInt(20));
            } else {
                look(random.nextInt(20));
            }
        }
    }

    private void same(String call, long got, long want) {
        calls++;
        DUE.says("run " + run + ", call " + calls);
        DUE.is(call, got, want);
    }

    /** Mostly 0 .. most, now and then beside it or far off. */
    private int about(int most) {
        int sort = random.nextInt(40);
        if (sort == 0) {
            return new int[] {Integer.MIN_VALUE, Integer.MAX_VALUE, -100, 1 << 20, 12345}[random.nextInt(5)];
        }
        return sort < 4 ? random.nextInt(most + 3) - 1 : random.nextInt(most + 1);
    }

    private int who() {
        return random.nextInt(12) == 0 ? about(6) : random.nextInt(Math.max(1, y.now.people.size()));
    }

    private void feed(String text) {
        for (int from = 0; from < text.length(); from += 20) {
            int[] fours = new int[5];
            for (int i = 0; i < 20; i++) {
                fours[i / 4] = fours[i / 4] << 8 | (from + i < text.length() ? text.charAt(from + i) & 255 : random.nextInt(256));
            }
            same("feed()", x.feed(fours[0], fours[1], fours[2], fours[3], fours[4]), y.feed(fours[0], fours[1], fours[2], fours[3], fours[4]));
        }
        same("end()", x.end(text.length()), y.end(text.length()));
    }

    private void text() {
        int sort = random.nextInt(10);
        if (random.nextInt(30) > 0) {
            same("end(0)", x.end(0), y.end(0));
        }
        if (sort == 0) {
            feed(writer.row());
            same("row()", x.row(), y.row());
            same("smears()", x.smears(), y.smears);
            return;
        }
        boolean law = sort < 5;
        String text = writer.text(random.nextInt(40) == 0 ? !law : law);
        feed(text);
        if (law) {
            same("law() of " + text, x.law(), y.law());
            int latest = y.now.laws.size() - 1;
            if (random.nextInt(4) > 0) {
                same("force()", x.force(latest), y.force(latest));
            }
        } else {
            same("orders() of " + text, x.orders(), y.orders());
            same("stopped()", x.stopped(), y.stopped);
        }
        same("fault()", x.fault(), y.fault);
    }

    private void change(int which) {
        int person = who();
        int a = about(3);
        int b = random.nextInt(17) - 8 + (random.nextInt(30) == 0 ? 9 : 0);
        switch (which) {
            case 0 -> same("person()", x.person(), y.person());
            case 1, 2 -> {
                int number = writer.glass();
                same("glass(" + person + ", " + number + ")", x.glass(person, number), y.glass(person, number));
            }
            case 3, 4 -> same("wanted(" + person + ", " + a + ")", x.wanted(person, a), y.wanted(person, a));
            case 5 -> {
                int value = about(a >= 0 && a < 4 ? new int[] {999, 10, 9, 255}[a] : 9);
                same("terms(" + a + ", " + value + ")", x.terms(a, value), y.terms(a, value));
            }
            case 6 -> {
                int value = random.nextInt(256);
                same("terms(3, " + value + ")", x.terms(3, value), y.terms(3, value));
            }
            case 7 -> {
                int law = about(6) - 1;
                same("force(" + law + ")", x.force(law), y.force(law));
            }
            case 8, 9, 10, 11 -> same("sin(" + person + ", " + a + ", " + b + ")", x.sin(person, a, b), y.act(0, person, a, b));
            case 12 -> same("grind(" + person + ")", x.grind(person), y.act(1, person, 0, 0));
            case 13 -> {
                int other = who();
                same("swap(" + person + ", " + other + ")", x.swap(person, other), y.act(2, person, other, 0));
            }
            case 14 -> same("cloth(" + person + ")", x.cloth(person), y.act(3, person, 0, 0));
            case 15 -> same("pass()", x.pass(), y.act(4, 0, 0, 0));
            case 16 -> same("undo()", x.undo(), y.undo());
            case 17, 18 -> {
                int number = random.nextInt(3) > 0 && y.now.has(person) ? y.now.sees(person) : about(255);
                same("saw(" + person + ", " + number + ")", x.saw(person, number), y.saw(person, number));
            }
            default -> keep(about(1), person);
        }
        same("status()", x.status(), y.status);
    }

    private void keep(int k, int sort) {
        if (random.nextInt(3) == 0) {
            same("forget()", x.forget(), y.forget());
        } else if (sort % 2 == 0) {
            same("image(" + k + ")", x.image(k), y.image(k));
        } else {
            same("back(" + k + ")", x.back(k), y.back(k));
        }
    }

    private void look(int which) {
        int person = who();
        int a = about(3);
        int b = about(7);
        int c = about(3) - 1;
        switch (which) {
            case 0, 1 -> {
                int what = about(12);
                same("of(" + person + ", " + what + ")", x.of(person, what), y.of(person, what));
            }
            case 2, 3 -> {
                int what = random.nextInt(15) == 0 ? about(2) : random.nextInt(2);
                same("asks(" + person + ", " + a + ", " + what + ")", x.asks(person, a, what), y.asks(person, a, what));
            }
            case 4 -> {
                int number = about(255);
                same("lens(" + b + ", " + number + ")", x.lens(b, number), y.lens(b, number));
            }
            case 5, 6 -> same("cure(" + person + ", " + c + ")", x.cure(person, c), y.cure(person, c));
            case 7 -> {
                int i = random.nextBoolean() ? c : about(255);
                same("scenes(" + i + ")", x.scenes(i), y.scenes(i));
            }
            case 8 -> {
                int what = random.nextInt(15) == 0 ? about(2) : random.nextInt(2);
                same("ask(" + what + ")", x.ask(what), y.ask(what));
            }
            case 9 -> {
                int i = about(5) - 1;
                same("mixed(" + i + ")", x.mixed(i), y.mixed(i));
            }
            case 10, 11 -> {
                int what = about(6);
                same("fitted(" + what + ")", x.fitted(what), y.fitted(what));
            }
            case 12 -> same("come(" + person + ", " + a + ", " + b + ")", x.come(person, a, b), y.come(person, a, b));
            case 13 -> {
                int n = random.nextInt(9) == 0 ? about(4) : 1 + random.nextInt(2);
                same("idle(" + n + ", " + c + ")", x.idle(n, c), y.idle(n, c));
            }
            case 14 -> same("alike(" + person + ")", x.alike(person), y.alike(person));
            case 15 -> {
                int law = about(6) - 1;
                same("ground(" + law + ", " + person + ")", x.ground(law, person), y.ground(law, person));
            }
            case 16 -> same("mildest(" + person + ")", x.mildest(person), y.mildest(person));
            case 17 -> {
                int k = about(20);
                int n = about(60);
                same("weaker(" + k + ", " + n + ")", x.weaker(k, n), y.weaker(k, n));
            }
            case 18 -> months(person);
            default -> {
                int what = about(15);
                same("count(" + what + ")", x.count(what), y.count(what));
            }
        }
    }

    private void months(int person) {
        if (random.nextBoolean()) {
            int seed = about(1000000);
            int n = 1 + about(59);
            same("months(" + seed + ", " + n + ")", x.months(seed, n), y.months(seed, n));
        }
        int what = about(4);
        same("drawn(" + person + ", " + what + ")", x.drawn(person, what), y.drawn(person, what));
    }

    /** Draws GLASSES, ROWS, and TEXTS that mostly can be. */
    private static final class Writer {
        private static final String[] LAW_WORDS = {"person", "kind", "sin", "sins", "sight", "lit", "first", "day", "mood"};
        private static final String[] ORDER_WORDS = {"day", "done", "latest", "scene", "sins ", "sight ", "does "};
        private static final String[] WRONG = {";", "if", "(", ")", "[", "]", "1001", "x", "=", "not", "or", "times", "of", "1", "sin", "%", "\t"};

        private final Random random;
        private boolean law;

        private Writer(Random random) {
            this.random = random;
        }

        private int glass() {
            int number = 0;
            for (int n = random.nextInt(5); n > 0; n--) {
                number = number * 10 + 1 + random.nextInt(8);
            }
            return random.nextInt(15) == 0 ? random.nextInt(12000) - 5 : number;
        }

        private String row() {
            StringBuilder made = new StringBuilder();
            for (int n = random.nextInt(14); n > 0; n--) {
                made.append((char) (random.nextInt(12) == 0 ? random.nextInt(256) : random.nextInt(9)));
            }
            return made.toString();
        }

        private String text(boolean ofLaw) {
            law = ofLaw;
            StringBuilder made = new StringBuilder(clause());
            for (int n = random.nextInt(random.nextInt(12) == 0 ? 14 : 4); n > 0; n--) {
                made.append(blank()).append(';').append(blank()).append(clause());
            }
            if (random.nextInt(5) == 0) {
                int at = random.nextInt(made.length() + 1);
                made.insert(at, random.nextBoolean() ? WRONG[random.nextInt(WRONG.length)] : " " + WRONG[random.nextInt(WRONG.length)] + " ");
            }
            if (random.nextInt(25) == 0) {
                made.deleteCharAt(random.nextInt(made.length()));
            }
            made.append(blank());
            return made.substring(0, Math.min(400, made.length()));
        }

        private String blank() {
            return " ".repeat(random.nextInt(4) == 0 ? random.nextInt(3) : 0);
        }

        private String clause() {
            String made = law ? lawClause() : orderClause();
            if (!law && random.nextInt(3) == 0) {
                made += " times " + (random.nextInt(12) == 0 ? random.nextInt(24) : 1 + random.nextInt(4));
            }
            return random.nextBoolean() ? made + " if " + test(2) : made;
        }

        private String lawClause() {
            int sort = random.nextInt(10);
            return sort == 0 ? "bars" : new String[] {"grinds ", "grows ", "does "}[sort % 3] + sum(2);
        }

        private String orderClause() {
            return switch (random.nextInt(5)) {
                case 0 -> "sin " + small() + " of " + small();
                case 1 -> "grind " + small();
                case 2 -> "swap " + small() + " with " + small();
                case 3 -> "cloth " + small();
                default -> "pass";
            };
        }

        private String small() {
            return random.nextInt(5) == 0 ? sum(2) : "" + random.nextInt(random.nextInt(9) == 0 ? 7 : 3);
        }

        private String test(int depth) {
            return switch (random.nextInt(depth > 0 ? 8 : 4)) {
                case 4 -> test(depth - 1) + " or " + test(depth - 1);
                case 5 -> test(depth - 1) + " and " + test(depth - 1);
                case 6 -> "not " + test(depth - 1);
                case 7 -> "(" + test(depth - 1) + ")";
                default -> sum(1) + blank() + "<>=".charAt(random.nextInt(3)) + blank() + sum(1);
            };
        }

        private String sum(int depth) {
            return switch (random.nextInt(depth > 0 ? 6 : 3)) {
                case 3, 4 -> sum(depth - 1) + blank() + "+-*/%".charAt(random.nextInt(5)) + blank() + sum(depth - 1);
                case 5 -> "[" + sum(depth - 1) + "]";
                default -> part();
            };
        }

        private String part() {
            if (random.nextBoolean()) {
                return "" + (random.nextInt(12) == 0 ? 1000 - random.nextInt(2) : random.nextInt(9));
            }
            String word = (law ? LAW_WORDS : ORDER_WORDS)[random.nextInt(law ? 9 : 7)];
            return word.endsWith(" ") ? word + random.nextInt(random.nextInt(9) == 0 ? 8 : 6) : word;
        }
    }
}
