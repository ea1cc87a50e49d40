import java.util.ArrayDeque;
import java.util.ArrayList;
import java.util.Deque;
import java.util.List;

/** The document a second time, as plainly as it can be told, with lists and lambdas, for ModelTest to hold the class against. */
final class Model {
    /** What a word of a TEXT is worth; null: there is no such word. */
    interface Words {
        Long worth(String word, int person);
    }

    /** A SUM; null: BROKEN. */
    interface Sum {
        Long of(Words words);
    }

    /** A TEST; null: BROKEN. */
    interface Test {
        Boolean of(Words words);
    }

    static final class Clause {
        String verb;
        final List<Sum> sums = new ArrayList<>();
        int times = 1;
        Test test;
    }

    static final class Fault extends RuntimeException {
        final int place;

        Fault(int place) {
            this.place = place;
        }
    }

    static final class Person {
        final int[] sins = new int[4];
        List<Integer> glass = new ArrayList<>();
        int wanted;

        Person copy() {
            Person made = new Person();
            System.arraycopy(sins, 0, made.sins, 0, 4);
            made.glass = new ArrayList<>(glass);
            made.wanted = wanted;
            return made;
        }
    }

    static final class State {
        final List<Person> people = new ArrayList<>();
        final List<int[]> seen = new ArrayList<>();
        final List<List<Clause>> laws = new ArrayList<>();
        int force = -1;
        int[] terms = {0, 1, 0, 0};

        State copy() {
            State made = new State();
            for (Person person : people) {
                made.people.add(person.copy());
            }
            made.seen.addAll(seen);
            made.laws.addAll(laws);
            made.force = force;
            made.terms = terms.clone();
            return made;
        }

        boolean has(int person) {
            return person >= 0 && person < people.size();
        }

        List<Clause> law() {
            return force < 0 ? List.of() : laws.get(force);
        }

        int sees(int person) {
            return through(people.get(person).glass, terms[3]);
        }
    }

    /** What was ahead of a deed, and which it was. */
    record Step(State ahead, int which) {
    }

    State now = new State();
    private final State[] images = new State[2];
    private State months;
    private Deque<Step> steps = new ArrayDeque<>();
    private String tape = "";
    private final int[] refusals = new int[7];
    int status;
    int smears;
    int fault = -1;
    int stopped = -1;

    static int through(List<Integer> glass, int scene) {
        int made = scene;
        for (int lens : glass) {
            made = Due.lens(lens, made);
        }
        return made;
    }

    private int refuse(int why) {
        status = why;
        refusals[-why]++;
        return why;
    }

    private int take(int answer) {
        status = 0;
        return answer;
    }

    // What a LAW tells.

    private static Long last(List<Clause> law, String verb, Words words) {
        Long told = null;
        for (Clause clause : law) {
            boolean so = clause.verb.equals(verb) && (clause.test == null || Boolean.TRUE.equals(clause.test.of(words)));
            Long worth = !so ? null : clause.sums.isEmpty() ? Long.valueOf(1) : clause.sums.get(0).of(words);
            told = worth == null ? told : worth;
        }
        return told;
    }

    private static Words about(State s, int person, int kind, int sight) {
        Person p = s.people.get(person);
        long sins = p.sins[0] + p.sins[1] + p.sins[2] + p.sins[3];
        return (word, nobody) -> switch (word) {
            case "person" -> (long) person;
            case "kind" -> (long) kind;
            case "sin" -> kind < 0 ? -1L : p.sins[kind];
            case "sins" -> sins;
            case "sight" -> kind < 0 ? sight : -1L;
            case "lit" -> kind < 0 ? Integer.bitCount(sight) : -1L;
            case "first" -> kind < 0 ? Math.min(8, Integer.numberOfTrailingZeros(sight)) : -1L;
            case "day" -> (long) s.terms[0];
            case "mood" -> (long) s.terms[2];
            default -> null;
        };
    }

    private static int near(long value, int least, int most) {
        return (int) Math.max(least, Math.min(most, value));
    }

    static int lensOf(State s, List<Clause> law, int person, int kind) {
        Long told = last(law, "grinds", about(s, person, kind, 0));
        return told != null ? near(told, 0, 7) : s.people.get(person).sins[kind] >= 4 ? kind + 1 : 0;
    }

    static int growth(State s, int person, int kind) {
        Long told = last(s.law(), "grows", about(s, person, kind, 0));
        return told == null ? 0 : near(told, -8, 8);
    }

    static int deed(State s, int person, int sight) {
        Long told = last(s.law(), "does", about(s, person, -1, sight));
        return told == null ? Integer.bitCount(sight) % 4 : near(told, 0, 3);
    }

    static boolean barred(State s, int person) {
        return last(s.law(), "bars", about(s, person, -1, s.sees(person))) != null;
    }

    static List<Integer> glassBy(State s, List<Clause> law, int person) {
        List<Integer> glass = new ArrayList<>();
        for (int kind = 0; kind < 4; kind++) {
            int lens = lensOf(s, law, person, kind);
            if (lens != 0) {
                glass.add(lens);
            }
        }
        return glass;
    }

    // The face.

    int person() {
        if (now.people.size() == 6) {
            return refuse(-5);
        }
        steps.clear();
        now.people.add(new Person());
        return take(now.people.size() - 1);
    }

    int of(int person, int what) {
        if (!now.has(person) || what < 0 || what > 12) {
            return -1;
        }
        Person p = now.people.get(person);
        if (what < 4) {
            return p.sins[what];
        }
        if (what >= 5 && what <= 8) {
            return what - 5 < p.glass.size() ? p.glass.get(what - 5) : -1;
        }
        return switch (what) {
            case 4 -> p.glass.size();
            case 9 -> now.sees(person);
            case 10 -> deed(now, person, now.sees(person));
            case 11 -> p.wanted;
            default -> barred(now, person) ? 1 : 0;
        };
    }

    int asks(int person, int kind, int what) {
        if (!now.has(person) || kind < 0 || kind > 3 || what < 0 || what > 1) {
            return -100;
        }
        return what == 0 ? lensOf(now, now.law(), person, kind) : growth(now, person, kind);
    }

    private static List<Integer> lensesOf(int number) {
        if (number != 0 && !Integer.toString(number).matches("[1-8]{1,4}")) {
            return null;
        }
        List<Integer> lenses = new ArrayList<>();
        for (char digit : number == 0 ? new char[0] : Integer.toString(number).toCharArray()) {
            lenses.add(digit - '1');
        }
        return lenses;
    }

    int glass(int person, int number) {
        List<Integer> lenses = lensesOf(number);
        if (lenses == null) {
            return refuse(-1);
        }
        if (!now.has(person)) {
            return refuse(-2);
        }
        steps.clear();
        now.people.get(person).glass = lenses;
        return take(lenses.size());
    }

    int wanted(int person, int deed) {
        if (deed < 0 || deed > 3) {
            return refuse(-1);
        }
        if (!now.has(person)) {
            return refuse(-2);
        }
        int was = now.people.get(person).wanted;
        now.people.get(person).wanted = deed;
        return take(was);
    }

    int lens(int lens, int number) {
        return lens < 0 || lens > 7 || number < 0 || number > 255 ? -1 : Due.lens(lens, number);
    }

    int terms(int what, int value) {
        if (what < 0 || what > 3 || value < 0 || value > new int[] {999, 10, 9, 255}[what]) {
            return refuse(-1);
        }
        steps.clear();
        int was = now.terms[what];
        now.terms[what] = value;
        return take(was);
    }

    int feed(int a, int b, int c, int d, int e) {
        if (tape.length() + 20 > 400) {
            return -1;
        }
        StringBuilder more = new StringBuilder(tape);
        for (int number : new int[] {a, b, c, d, e}) {
            for (int shift = 24; shift >= 0; shift -= 8) {
                more.append((char) (number >>> shift & 255));
            }
        }
        tape = more.toString();
        return tape.length();
    }

    int end(int n) {
        if (n < 0 || n > tape.length()) {
            return -1;
        }
        tape = tape.substring(0, n);
        return n;
    }

    int row() {
        if (tape.isEmpty()) {
            return refuse(-6);
        }
        steps.clear();
        smears = 0;
        int came = 0;
        for (int from = 0; from < tape.length(); from += 4) {
            Person p = new Person();
            boolean can = from + 4 <= tape.length() && now.people.size() < 6;
            for (int kind = 0; kind < 4 && can; kind++) {
                p.sins[kind] = tape.charAt(from + kind);
                can = p.sins[kind] <= 8;
            }
            if (can) {
                now.people.add(p);
                came++;
            } else {
                smears++;
            }
        }
        tape = "";
        return take(came);
    }

    private List<Clause> read(boolean law) {
        String text = tape;
        tape = "";
        fault = -1;
        try {
            return new Texts(text, law).clauses();
        } catch (Fault found) {
            fault = found.place;
            return null;
        }
    }

    int law() {
        if (now.laws.size() == 6) {
            tape = "";
            return refuse(-5);
        }
        List<Clause> law = read(true);
        if (law == null) {
            return refuse(-6);
        }
        now.laws.add(law);
        return take(now.laws.size() - 1);
    }

    private int done;
    private int latest;

    int orders() {
        stopped = -1;
        List<Clause> orders = read(false);
        if (orders == null) {
            return refuse(-6);
        }
        State ahead = now.copy();
        Deque<Step> stepsAhead = new ArrayDeque<>(steps);
        done = 0;
        latest = -1;
        for (int n = 0; n < orders.size(); n++) {
            for (int time = 0; time < orders.get(n).times; time++) {
                if (!run(orders.get(n))) {
                    now = ahead;
                    steps = stepsAhead;
                    stopped = n;
                    return refuse(-3);
                }
            }
        }
        return take(done);
    }

    private Long worth(String word, int person) {
        if (person >= 0 && !now.has(person)) {
            return -1L;
        }
        return switch (word) {
            case "day" -> (long) now.terms[0];
            case "done" -> (long) done;
            case "latest" -> (long) latest;
            case "scene" -> (long) now.terms[3];
            case "sins" -> (long) java.util.Arrays.stream(now.people.get(person).sins).sum();
            case "sight" -> (long) now.sees(person);
            case "does" -> (long) deed(now, person, now.sees(person));
            default -> null;
        };
    }

    private boolean run(Clause clause) {
        if (clause.test != null && !Boolean.TRUE.equals(clause.test.of(this::worth))) {
            return true;
        }
        int[] args = new int[2];
        for (int n = 0; n < clause.sums.size(); n++) {
            Long worth = clause.sums.get(n).of(this::worth);
            if (worth == null) {
                return false;
            }
            args[n] = (int) (long) worth;
        }
        int told = deed(List.of("sin", "grind", "swap", "cloth", "pass").indexOf(clause.verb), args[0], args[1], 1);
        if (told < 0) {
            return false;
        }
        done++;
        latest = clause.verb.equals("grind") ? told : latest;
        return true;
    }

    private int why(int which, int one, int other, int by) {
        if (which == 0) {
            if (other < 0 || other > 3 || by < -8 || by > 8) {
                return -1;
            }
            int then = now.has(one) ? now.people.get(one).sins[other] + by : 0;
            return !now.has(one) ? -2 : then < 0 || then > 8 ? -3 : 0;
        }
        if (which == 2) {
            return one == other ? -1 : now.has(one) && now.has(other) ? 0 : -2;
        }
        if (which == 4) {
            return now.terms[0] == 999 ? -3 : 0;
        }
        if (!now.has(one)) {
            return -2;
        }
        return (which == 1 ? barred(now, one) : now.people.get(one).glass.isEmpty()) ? -3 : 0;
    }

    private int deed(int which, int one, int other, int by) {
        int why = why(which, one, other, by);
        if (why != 0) {
            return why;
        }
        steps.addLast(new Step(now.copy(), which));
        if (steps.size() > 16) {
            steps.removeFirst();
        }
        if (which == 4) {
            pass(now);
            return now.terms[0];
        }
        Person p = now.people.get(one);
        if (which == 0) {
            p.sins[other] += by;
            return p.sins[other];
        }
        List<Integer> was = p.glass;
        p.glass = which == 1 ? glassBy(now, now.law(), one) : which == 2 ? now.people.get(other).glass : new ArrayList<>();
        if (which == 2) {
            now.people.get(other).glass = was;
        }
        return which == 1 ? p.glass.size() : which == 2 ? was.size() + p.glass.size() : was.size();
    }

    private static void pass(State s) {
        State ahead = s.copy();
        for (int person = 0; person < s.people.size(); person++) {
            for (int kind = 0; kind < 4; kind++) {
                int[] sins = s.people.get(person).sins;
                sins[kind] = near(sins[kind] + growth(ahead, person, kind), 0, 8);
            }
        }
        s.terms[0]++;
    }

    int force(int law) {
        if (law < -1 || law >= now.laws.size()) {
            return refuse(-2);
        }
        int was = now.force;
        now.force = law;
        return take(was);
    }

    int act(int which, int one, int other, int by) {
        int told = deed(which, one, other, by);
        return told < 0 ? refuse(told) : take(told);
    }

    int undo() {
        if (steps.isEmpty()) {
            return refuse(-3);
        }
        Step step = steps.removeLast();
        for (int person = 0; person < now.people.size(); person++) {
            Person was = step.ahead.people.get(person);
            System.arraycopy(was.sins, 0, now.people.get(person).sins, 0, 4);
            now.people.get(person).glass = was.glass;
        }
        now.terms[0] = step.ahead.terms[0];
        return take(step.which);
    }

    int cure(int person, int i) {
        if (!now.has(person) || i < -1) {
            return -1;
        }
        List<Integer> row = cureOf(now.sees(person), now.terms[3]);
        return row == null ? -1 : i == -1 ? row.size() : i < row.size() ? row.get(i) : -1;
    }

    /** Off each number in rounds, then from the first on always the lowest LENS that leads nearer. */
    private static List<Integer> cureOf(int from, int to) {
        int[] off = new int[256];
        java.util.Arrays.fill(off, 999);
        off[to] = 0;
        for (int round = 1; round < 30; round++) {
            for (int n = 0; n < 256; n++) {
                for (int lens = 0; lens < 8 && off[n] == 999; lens++) {
                    off[n] = off[LENS[lens][n]] == round - 1 ? round : 999;
                }
            }
        }
        List<Integer> row = new ArrayList<>();
        int at = from;
        while (off[at] > 0 && off[at] < 999) {
            int lens = 0;
            while (off[LENS[lens][at]] != off[at] - 1) {
                lens++;
            }
            row.add(lens);
            at = LENS[lens][at];
        }
        return off[at] == 0 ? row : null;
    }

    private static final int[][] LENS = new int[8][256];

    static {
        for (int n = 0; n < 8 * 256; n++) {
            LENS[n / 256][n % 256] = Due.lens(n / 256, n % 256);
        }
    }

    int saw(int person, int number) {
        if (number < 0 || number > 255) {
            return refuse(-1);
        }
        if (!now.has(person)) {
            return refuse(-2);
        }
        if (now.seen.size() == 8) {
            return refuse(-5);
        }
        now.seen.add(new int[] {person, number});
        return take(now.seen.size());
    }

    int forget() {
        int was = now.seen.size();
        now.seen.clear();
        return was;
    }

    private List<Integer> possible() {
        List<Integer> scenes = new ArrayList<>();
        for (int scene = 0; scene < 256; scene++) {
            boolean so = true;
            for (int[] seen : now.seen) {
                so &= through(now.people.get(seen[0]).glass, scene) == seen[1];
            }
            if (so) {
                scenes.add(scene);
            }
        }
        return scenes;
    }

    private static int nth(List<Integer> all, int i) {
        return i == -1 ? all.size() : i >= 0 && i < all.size() ? all.get(i) : -1;
    }

    int scenes(int i) {
        return nth(possible(), i);
    }

    int ask(int what) {
        List<Integer> scenes = possible();
        if (scenes.isEmpty() || what < 0 || what > 1) {
            return -1;
        }
        int best = -1;
        int fewest = 999;
        for (int person = 0; person < now.people.size(); person++) {
            int[] alike = new int[256];
            int most = 0;
            for (int scene : scenes) {
                most = Math.max(most, ++alike[through(now.people.get(person).glass, scene)]);
            }
            if (most < fewest) {
                fewest = most;
                best = person;
            }
        }
        return what == 0 || best == -1 ? best : fewest;
    }

    int mixed(int i) {
        List<Integer> twos = new ArrayList<>();
        for (int low = 0; low < now.people.size(); low++) {
            for (int high = low + 1; high < now.people.size(); high++) {
                State s = now.copy();
                s.people.get(low).glass = now.people.get(high).glass;
                s.people.get(high).glass = now.people.get(low).glass;
                boolean so = true;
                for (int[] seen : s.seen) {
                    so &= s.sees(seen[0]) == seen[1];
                }
                if (so) {
                    twos.add(low * 10 + high);
                }
            }
        }
        return nth(twos, i);
    }

    private int[] bestRow;
    private int mostFit;

    int fitted(int what) {
        if (what < 0 || what > now.people.size()) {
            return -1;
        }
        mostFit = -1;
        fit(new int[now.people.size()], 0, 0);
        return what == 0 ? mostFit : bestRow[what - 1];
    }

    private void fit(int[] row, int person, int sum) {
        if (person == row.length) {
            bestRow = sum > mostFit ? row.clone() : bestRow;
            mostFit = Math.max(mostFit, sum);
            return;
        }
        for (int whose = 0; whose < row.length; whose++) {
            boolean free = true;
            for (int n = 0; n < person; n++) {
                free &= row[n] != whose;
            }
            if (free) {
                row[person] = whose;
                fit(row, person + 1, sum + (deed(now, person, now.sees(whose)) == now.people.get(person).wanted ? 1 : 0));
            }
        }
    }

    int come(int person, int kind, int lens) {
        if (!now.has(person) || kind < 0 || kind > 3 || lens < 0 || lens > 7) {
            return -1;
        }
        int bits = 0;
        for (int sin = 0; sin <= 8; sin++) {
            State s = now.copy();
            s.people.get(person).sins[kind] = sin;
            bits |= lensOf(s, s.law(), person, kind) == lens ? 1 << sin : 0;
        }
        return bits;
    }

    int idle(int n, int i) {
        if (n < 1 || n > 4) {
            return -1;
        }
        List<Integer> rows = new ArrayList<>();
        for (int row = 1; row < Math.pow(10, n); row++) {
            String digits = Integer.toString(row);
            boolean can = digits.length() == n && digits.matches("[1-7]+");
            for (int x = 0; x < 256 && can; x++) {
                int made = x;
                for (char digit : digits.toCharArray()) {
                    made = LENS[digit - '0'][made];
                }
                can = made == x;
            }
            if (can) {
                rows.add(row);
            }
        }
        return nth(rows, i);
    }

    int alike(int person) {
        int same = 0;
        for (int other = 0; other < now.people.size() && now.has(person); other++) {
            same += now.sees(other) == now.sees(person) ? 1 : 0;
        }
        return now.has(person) ? same : -1;
    }

    int ground(int law, int person) {
        if (!now.has(person) || law < -1 || law >= now.laws.size()) {
            return -1;
        }
        return glassBy(now, law < 0 ? List.of() : now.laws.get(law), person).size();
    }

    int mildest(int person) {
        for (int number = 0; number < 100 && now.has(person); number++) {
            List<Integer> lenses = lensesOf(number);
            if (lenses != null && deed(now, person, through(lenses, now.terms[3])) == now.people.get(person).wanted) {
                return number;
            }
        }
        return -1;
    }

    long weaker(int k, int n) {
        if (k < 0 || k > 20 || n < 0 || n > 60) {
            return -1;
        }
        long[] have = new long[22];
        have[0] = 1000000000000L;
        for (int person = 0; person < n; person++) {
            long[] then = new long[22];
            for (int j = 0; j < k; j++) {
                then[j] += have[j] * (10 - now.terms[1]) / 10;
                then[j + 1] += have[j] * now.terms[1] / 10;
            }
            then[k] += have[k];
            have = then;
        }
        return have[k];
    }

    private static int drawn;

    private static int draw(int m) {
        drawn = (int) ((drawn * 1103L + 12345) % 1000003);
        return drawn % m;
    }

    int months(int seed, int n) {
        if (seed < 0 || seed > 1000000 || n < 1 || n > 60) {
            return refuse(-1);
        }
        if (now.people.isEmpty()) {
            return refuse(-3);
        }
        months = now.copy();
        drawn = seed;
        int often = 0;
        for (int day = 0; day < n && months.terms[0] < 999; day++) {
            int person = draw(months.people.size());
            int kind = draw(4);
            int what = draw(3);
            int[] sins = months.people.get(person).sins;
            if (what == 0) {
                sins[kind] = Math.min(8, sins[kind] + 1);
            } else if (what == 2) {
                sins[kind] = Math.max(0, sins[kind] - 1);
            } else if (!barred(months, person)) {
                months.people.get(person).glass = glassBy(months, months.law(), person);
                often++;
            }
            pass(months);
        }
        return take(often);
    }

    int drawn(int person, int what) {
        if (months == null || !months.has(person) || what < 0 || what > 4) {
            return -1;
        }
        return what == 4 ? months.people.get(person).glass.size() : months.people.get(person).sins[what];
    }

    int image(int k) {
        if (k < 0 || k > 1) {
            return refuse(-1);
        }
        images[k] = now.copy();
        return take(0);
    }

    int back(int k) {
        if (k < 0 || k > 1) {
            return refuse(-1);
        }
        if (images[k] == null) {
            return refuse(-2);
        }
        now = images[k].copy();
        steps.clear();
        return take(0);
    }

    int count(int what) {
        if (what >= 12 && what <= 15) {
            return now.terms[what - 12];
        }
        return switch (what) {
            case 0 -> now.people.size();
            case 1 -> now.people.stream().mapToInt(p -> java.util.Arrays.stream(p.sins).sum()).sum();
            case 2 -> now.seen.size();
            case 3 -> now.laws.size();
            case 4 -> steps.size();
            case 5 -> tape.length();
            case 6, 7, 8 -> refusals[what - 5];
            case 9, 10 -> refusals[what - 4];
            case 11 -> now.force;
            default -> -1;
        };
    }
}
