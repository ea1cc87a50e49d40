/** Spectacles that are ground to one's sins; ../shared/DOC.md tells what each call answers. */
public final class SinLenses {
    public static final int NONE = -1;
    public static final int NOTHING = -100;

    private static final int BAD_NUMBER = -1;
    private static final int NO_SUCH = -2;
    private static final int CANNOT_BE = -3;
    private static final int NO_ROOM = -5;
    private static final int BAD_TEXT = -6;

    private static final int MOST_PEOPLE = 6;
    private static final int KINDS = 4;
    private static final int MOST_SIN = 8;
    private static final int MOST_LENSES = 4;
    private static final int LENSES = 8;
    private static final int NUMBERS = 256;
    private static final int MOST_DEED = 3;
    private static final int MOST_SEEN = 8;
    private static final int MOST_LAWS = 6;

    private static final int DAY = 0;
    private static final int WEAK = 1;
    private static final int MOOD = 2;
    private static final int SCENE = 3;
    private static final int TERMS = 4;
    private static final int LAST_DAY = 999;
    private static final int[] MOST_OF_TERMS = {LAST_DAY, 10, 9, 255};

    private static final int TAPE = 400;
    private static final int BLANK = 32;
    private static final int MOST_CLAUSES = 12;
    private static final int MOST_PARTS = 50;
    private static final int MOST_BRACKETS = 8;
    private static final int MOST_NUMBER = 1000;
    private static final int MOST_TIMES = 20;
    private static final int MARKS = 4;

    /** What a SUM, a TEST that is BROKEN is worth, and what is told where no CLAUSE HOLDS. */
    private static final int BROKEN = Integer.MIN_VALUE;
    private static final long WIDEST = 1_000_000_000L;

    private static final int GRINDS = 0;
    private static final int GROWS = 1;
    private static final int DOES = 2;
    private static final int BARS = 3;

    /** The verbs of ORDERS; they are what undo() answers, too. */
    private static final int SIN = 0;
    private static final int GRIND = 1;
    private static final int SWAP = 2;
    private static final int CLOTH = 3;
    private static final int PASS = 4;

    private static final int WORD_PERSON = 0;
    private static final int WORD_KIND = 1;
    private static final int WORD_SIN = 2;
    private static final int WORD_SINS = 3;
    private static final int WORD_SIGHT = 4;
    private static final int WORD_LIT = 5;
    private static final int WORD_FIRST = 6;
    private static final int WORD_DAY = 7;
    private static final int WORD_MOOD = 8;
    private static final int LAW_WORDS = 9;

    /** Words of ORDERS; those of a PERSON have a row of six places each. */
    private static final int NOW_DAY = 0;
    private static final int NOW_DONE = 1;
    private static final int NOW_LATEST = 2;
    private static final int NOW_SCENE = 3;
    private static final int NOW_SINS = 4;
    private static final int NOW_SIGHT = NOW_SINS + MOST_PEOPLE;
    private static final int NOW_DOES = NOW_SIGHT + MOST_PEOPLE;
    private static final int ORDER_WORDS = NOW_DOES + MOST_PEOPLE;

    private static final int PUT = 0;
    private static final int WORD = 1;
    private static final int ADD = 2;
    private static final int TAKE = 3;
    private static final int MULTIPLY = 4;
    private static final int DIVIDE = 5;
    private static final int LEFT_OVER = 6;
    private static final int LESS = 7;
    private static final int MORE = 8;
    private static final int SAME = 9;
    private static final int NOT = 10;
    private static final int OR = 11;
    private static final int AND = 12;

    /** What letters can stand for, in the order of the names' numbers; each ends with a blank. */
    private static final String NAMES =
        "grinds grows does bars sin grind swap cloth pass if times of with or and not person kind sins sight lit first day mood done latest scene ";
    private static final int GRINDS_TO_BARS = 4;
    private static final int DOES_NAME = 2;
    private static final int SIN_NAME = 4;
    private static final int IF = 9;
    private static final int TIMES = 10;
    private static final int OF = 11;
    private static final int WITH = 12;
    private static final int OR_NAME = 13;
    private static final int AND_NAME = 14;
    private static final int NOT_NAME = 15;
    private static final int PERSON_NAME = 16;
    private static final int KIND_NAME = 17;
    private static final int SINS_NAME = 18;
    private static final int SIGHT_NAME = 19;
    private static final int LIT_NAME = 20;
    private static final int FIRST_NAME = 21;
    private static final int DAY_NAME = 22;
    private static final int MOOD_NAME = 23;
    private static final int DONE_NAME = 24;
    private static final int LATEST_NAME = 25;
    private static final int SCENE_NAME = 26;
    private static final int A_NUMBER = 50;
    private static final int THE_END = 51;
    /** A TOKEN of one byte is that byte and this. */
    private static final int SIGNS = 100;

    private static final int ALONE = 0;
    private static final int LETTER = 1;
    private static final int DIGIT = 2;

    private static final int IMAGES = 2;
    private static final int MOST_SEED = 1_000_000;
    private static final int MOST_DAYS = 60;
    private static final int MOST_WEAK = 20;
    private static final int MOST_ASKED = 60;

    private final Parish now = new Parish();
    private final Parish behindMonths = new Parish();
    private final Parish[] images = new Parish[IMAGES];
    private final Trail trail = new Trail();
    private final Judge judge = new Judge();
    private final Deeds deeds = new Deeds();
    private final Clerk clerk = new Clerk();
    private final Paper paper = new Paper();
    private final Reader reader = new Reader();
    private final int[] refusals = new int[-BAD_TEXT + 1];
    private int latestStatus;
    private int latestSmears;
    private int latestStopped = NONE;

    public SinLenses() {
    }

    public int person() {
        if (now.people >= MOST_PEOPLE) {
            return refuse(NO_ROOM);
        }
        trail.empty();
        return accept(now.addPerson());
    }

    public int of(int person, int what) {
        if (!now.has(person)) {
            return NONE;
        }
        if (what >= 0 && what < KINDS) {
            return now.sinOf(person, what);
        }
        if (what >= 5 && what < 5 + MOST_LENSES) {
            return Optics.lensAt(now.glassOf(person), what - 5);
        }
        switch (what) {
            case 4:
                return Optics.lensesIn(now.glassOf(person));
            case 9:
                return now.sightOf(person);
            case 10:
                return judge.deed(now, person, now.sightOf(person));
            case 11:
                return now.wantedOf(person);
            case 12:
                return judge.bars(now, person) ? 1 : 0;
            default:
                return NONE;
        }
    }

    public int asks(int person, int kind, int what) {
        if (!now.has(person) || !isKind(kind)) {
            return NOTHING;
        }
        if (what == 0) {
            return judge.lensFor(now, now.lawInForce(), person, kind);
        }
        return what == 1 ? judge.growth(now, person, kind) : NOTHING;
    }

    public int glass(int person, int lenses) {
        int held = Optics.lensesIn(lenses);
        if (held == NONE) {
            return refuse(BAD_NUMBER);
        }
        if (!now.has(person)) {
            return refuse(NO_SUCH);
        }
        trail.empty();
        now.setGlass(person, lenses);
        return accept(held);
    }

    public int wanted(int person, int deed) {
        if (deed < 0 || deed > MOST_DEED) {
            return refuse(BAD_NUMBER);
        }
        if (!now.has(person)) {
            return refuse(NO_SUCH);
        }
        int was = now.wantedOf(person);
        now.setWanted(person, deed);
        return accept(was);
    }

    public int lens(int lens, int number) {
        return isLens(lens) && isNumber(number) ? Optics.bend(lens, number) : NONE;
    }

    public int terms(int what, int value) {
        if (what < 0 || what >= TERMS || value < 0 || value > MOST_OF_TERMS[what]) {
            return refuse(BAD_NUMBER);
        }
        trail.empty();
        int was = now.termOf(what);
        now.setTerm(what, value);
        return accept(was);
    }

    public int feed(int a, int b, int c, int d, int e) {
        if (!reader.hasRoomFor(20)) {
            return NONE;
        }
        reader.addFour(a);
        reader.addFour(b);
        reader.addFour(c);
        reader.addFour(d);
        reader.addFour(e);
        return reader.length;
    }

    public int end(int n) {
        if (n < 0 || n > reader.length) {
            return NONE;
        }
        reader.length = n;
        return n;
    }

    public int row() {
        if (reader.length == 0) {
            return refuse(BAD_TEXT);
        }
        trail.empty();
        int came = 0;
        int smeared = 0;
        for (int from = 0; from < reader.length; from += KINDS) {
            if (reader.hasSinsAt(from) && now.people < MOST_PEOPLE) {
                addSinner(from);
                came++;
            } else {
                smeared++;
            }
        }
        reader.length = 0;
        latestSmears = smeared;
        return accept(came);
    }

    private void addSinner(int from) {
        int person = now.addPerson();
        for (int kind = 0; kind < KINDS; kind++) {
            now.setSin(person, kind, reader.byteAt(from + kind));
        }
    }

    public int smears() {
        return latestSmears;
    }

    public int law() {
        if (now.lawCount >= MOST_LAWS) {
            reader.length = 0;
            return refuse(NO_ROOM);
        }
        if (!reader.reads(true)) {
            return refuse(BAD_TEXT);
        }
        return accept(now.addLaw(reader.text.copy()));
    }

    public int orders() {
        latestStopped = NONE;
        if (!reader.reads(false)) {
            return refuse(BAD_TEXT);
        }
        clerk.begin(now, trail);
        Text text = reader.text;
        for (int clause = 0; clause < text.clauses; clause++) {
            for (int n = 0; n < text.repeatsOf(clause); n++) {
                if (!clerk.runOnce(text, clause, now, trail)) {
                    clerk.takeBack(now, trail);
                    latestStopped = clause;
                    return refuse(CANNOT_BE);
                }
            }
        }
        return accept(clerk.done);
    }

    public int fault() {
        return reader.faultAt;
    }

    public int stopped() {
        return latestStopped;
    }

    public int force(int law) {
        if (law != NONE && !now.hasLaw(law)) {
            return refuse(NO_SUCH);
        }
        int was = now.inForce;
        now.inForce = law;
        return accept(was);
    }

    public int sin(int person, int kind, int by) {
        return judged(deeds.act(now, trail, SIN, person, kind, by));
    }

    public int grind(int person) {
        return judged(deeds.act(now, trail, GRIND, person, 0, 0));
    }

    public int swap(int one, int other) {
        return judged(deeds.act(now, trail, SWAP, one, other, 0));
    }

    public int cloth(int person) {
        return judged(deeds.act(now, trail, CLOTH, person, 0, 0));
    }

    public int pass() {
        return judged(deeds.act(now, trail, PASS, 0, 0, 0));
    }

    public int undo() {
        return trail.held == 0 ? refuse(CANNOT_BE) : accept(trail.goBack(now));
    }

    public int cure(int person, int i) {
        return now.has(person) && i >= NONE ? paper.cureOf(now, person, i) : NONE;
    }

    public int saw(int person, int number) {
        if (!isNumber(number)) {
            return refuse(BAD_NUMBER);
        }
        if (!now.has(person)) {
            return refuse(NO_SUCH);
        }
        if (now.seen >= MOST_SEEN) {
            return refuse(NO_ROOM);
        }
        return accept(now.addSeen(person, number));
    }

    public int forget() {
        int was = now.seen;
        now.seen = 0;
        return was;
    }

    public int scenes(int i) {
        return i >= NONE ? paper.sceneAt(now, i) : NONE;
    }

    public int ask(int what) {
        return what == 0 || what == 1 ? paper.toAsk(now, what == 0) : NONE;
    }

    public int mixed(int i) {
        return i >= NONE ? paper.mixedAt(now, i) : NONE;
    }

    public int fitted(int what) {
        if (what != 0 && !now.has(what - 1)) {
            return NONE;
        }
        return paper.fit(now, what);
    }

    public int come(int person, int kind, int lens) {
        if (!now.has(person) || !isKind(kind) || !isLens(lens)) {
            return NONE;
        }
        return paper.sinsBehind(now, person, kind, lens);
    }

    public int idle(int n, int i) {
        return n >= 1 && n <= MOST_LENSES && i >= NONE ? paper.idleAt(n, i) : NONE;
    }

    public int alike(int person) {
        if (!now.has(person)) {
            return NONE;
        }
        int sight = now.sightOf(person);
        int same = 0;
        for (int other = 0; other < now.people; other++) {
            if (now.sightOf(other) == sight) {
                same++;
            }
        }
        return same;
    }

    public int ground(int law, int person) {
        if (!now.has(person) || law != NONE && !now.hasLaw(law)) {
            return NONE;
        }
        return Optics.lensesIn(judge.glassBy(now, now.lawAt(law), person));
    }

    public int mildest(int person) {
        return now.has(person) ? paper.mildestFor(now, person) : NONE;
    }

    public long weaker(int k, int n) {
        if (k < 0 || k > MOST_WEAK || n < 0 || n > MOST_ASKED) {
            return NONE;
        }
        return paper.chance(now.termOf(WEAK), k, n);
    }

    public int months(int seed, int n) {
        if (seed < 0 || seed > MOST_SEED || n < 1 || n > MOST_DAYS) {
            return refuse(BAD_NUMBER);
        }
        if (now.people == 0) {
            return refuse(CANNOT_BE);
        }
        behindMonths.copyFrom(now);
        return accept(deeds.drawDays(behindMonths, seed, n));
    }

    public int drawn(int person, int what) {
        if (!behindMonths.has(person)) {
            return NONE;
        }
        if (isKind(what)) {
            return behindMonths.sinOf(person, what);
        }
        return what == 4 ? Optics.lensesIn(behindMonths.glassOf(person)) : NONE;
    }

    public int image(int k) {
        if (k < 0 || k >= IMAGES) {
            return refuse(BAD_NUMBER);
        }
        Parish kept = images[k];
        if (kept == null) {
            kept = new Parish();
            images[k] = kept;
        }
        kept.copyFrom(now);
        return accept(0);
    }

    public int back(int k) {
        if (k < 0 || k >= IMAGES) {
            return refuse(BAD_NUMBER);
        }
        Parish kept = images[k];
        if (kept == null) {
            return refuse(NO_SUCH);
        }
        now.copyFrom(kept);
        trail.empty();
        return accept(0);
    }

    public int count(int what) {
        switch (what) {
            case 0:
                return now.people;
            case 1:
                return now.allSins();
            case 2:
                return now.seen;
            case 3:
                return now.lawCount;
            case 4:
                return trail.held;
            case 5:
                return reader.length;
            case 6:
                return refusals[-BAD_NUMBER];
            case 7:
                return refusals[-NO_SUCH];
            case 8:
                return refusals[-CANNOT_BE];
            case 9:
                return refusals[-NO_ROOM];
            case 10:
                return refusals[-BAD_TEXT];
            case 11:
                return now.inForce;
            default:
                return what >= 12 && what < 12 + TERMS ? now.termOf(what - 12) : NONE;
        }
    }

    public int status() {
        return latestStatus;
    }

    private int refuse(int why) {
        latestStatus = why;
        if (why < 0 && why >= BAD_TEXT) {
            refusals[-why]++;
        }
        return why;
    }

    private int accept(int answer) {
        latestStatus = 0;
        return answer;
    }

    private int judged(int told) {
        return told < 0 ? refuse(told) : accept(told);
    }

    private static boolean isKind(int kind) {
        return kind >= 0 && kind < KINDS;
    }

    private static boolean isLens(int lens) {
        return lens >= 0 && lens < LENSES;
    }

    private static boolean isNumber(int number) {
        return number >= 0 && number < NUMBERS;
    }

    private static int nearest(int value, int least, int most) {
        return Math.max(least, Math.min(most, value));
    }

    /** A GLASS is held as glass() takes it: a digit for each LENS, one more than it, the first the highest. */
    private static final class Optics {
        private static final int FIRST_PLACE = 1000;
        private static final int FULLEST = 8888;

        private static int bend(int lens, int x) {
            switch (lens) {
                case 1:
                    return (x | x << 1) & 255;
                case 2:
                    int fours = x << 4 & 240 | x >> 4 & 15;
                    int twos = fours << 2 & 204 | fours >> 2 & 51;
                    return twos << 1 & 170 | twos >> 1 & 85;
                case 3:
                    return (x << 1 | x >> 7) & 255;
                case 4:
                    return x & 126;
                case 5:
                    return (x << 4 | x >> 4) & 255;
                case 6:
                    return x ^ 255;
                case 7:
                    return x & x >> 1;
                default:
                    return x;
            }
        }

        private static int through(int glass, int scene) {
            int x = scene;
            for (int place = FIRST_PLACE; place > 0; place /= 10) {
                int digit = glass / place % 10;
                if (digit > 0) {
                    x = bend(digit - 1, x);
                }
            }
            return x;
        }

        /** How many LENSES; NONE, if that is no GLASS. */
        private static int lensesIn(int glass) {
            if (glass < 0 || glass > FULLEST) {
                return NONE;
            }
            int lenses = 0;
            for (int rest = glass; rest > 0; rest /= 10) {
                int digit = rest % 10;
                if (digit < 1 || digit > LENSES) {
                    return NONE;
                }
                lenses++;
            }
            return lenses;
        }

        private static int lensAt(int glass, int i) {
            int rest = glass;
            for (int behind = lensesIn(glass) - 1; behind > i; behind--) {
                rest /= 10;
            }
            return i >= 0 && i < lensesIn(glass) ? rest % 10 - 1 : NONE;
        }

        private static int litCells(int x) {
            int lit = 0;
            for (int cell = 0; cell < 8; cell++) {
                lit += x >> cell & 1;
            }
            return lit;
        }

        private static int lowestLit(int x) {
            for (int cell = 0; cell < 8; cell++) {
                if ((x >> cell & 1) == 1) {
                    return cell;
                }
            }
            return 8;
        }
    }

    /** All that an IMAGE keeps. */
    private static final class Parish {
        private int people;
        private final int[] sins = new int[MOST_PEOPLE * KINDS];
        private final int[] glasses = new int[MOST_PEOPLE];
        private final int[] wants = new int[MOST_PEOPLE];
        private final int[] termValues = new int[TERMS];
        private int seen;
        private final int[] seenBy = new int[MOST_SEEN];
        private final int[] seenAs = new int[MOST_SEEN];
        private int lawCount;
        private final Text[] laws = new Text[MOST_LAWS];
        private int inForce = NONE;

        private Parish() {
            termValues[WEAK] = 1;
        }

        private void copyFrom(Parish other) {
            people = other.people;
            System.arraycopy(other.sins, 0, sins, 0, MOST_PEOPLE * KINDS);
            System.arraycopy(other.glasses, 0, glasses, 0, MOST_PEOPLE);
            System.arraycopy(other.wants, 0, wants, 0, MOST_PEOPLE);
            System.arraycopy(other.termValues, 0, termValues, 0, TERMS);
            seen = other.seen;
            System.arraycopy(other.seenBy, 0, seenBy, 0, MOST_SEEN);
            System.arraycopy(other.seenAs, 0, seenAs, 0, MOST_SEEN);
            lawCount = other.lawCount;
            for (int law = 0; law < MOST_LAWS; law++) {
                laws[law] = other.laws[law];
            }
            inForce = other.inForce;
        }

        private boolean has(int person) {
            return person >= 0 && person < people && person < MOST_PEOPLE;
        }

        private int addPerson() {
            if (people >= MOST_PEOPLE) {
                return NONE;
            }
            int person = people;
            people++;
            for (int kind = 0; kind < KINDS; kind++) {
                setSin(person, kind, 0);
            }
            setGlass(person, 0);
            setWanted(person, 0);
            return person;
        }

        private int sinOf(int person, int kind) {
            return has(person) && isKind(kind) ? sins[person * KINDS + kind] : 0;
        }

        private void setSin(int person, int kind, int sin) {
            if (has(person) && isKind(kind)) {
                sins[person * KINDS + kind] = nearest(sin, 0, MOST_SIN);
            }
        }

        private int sinsOf(int person) {
            if (!has(person)) {
                return 0;
            }
            int sum = 0;
            for (int kind = 0; kind < KINDS; kind++) {
                sum += sins[person * KINDS + kind];
            }
            return sum;
        }

        private int allSins() {
            int sum = 0;
            for (int person = 0; person < people; person++) {
                sum += sinsOf(person);
            }
            return sum;
        }

        private int glassOf(int person) {
            return has(person) ? glasses[person] : 0;
        }

        private void setGlass(int person, int glass) {
            if (has(person)) {
                glasses[person] = glass;
            }
        }

        private int sightOf(int person) {
            return Optics.through(glassOf(person), termOf(SCENE));
        }

        private int wantedOf(int person) {
            return has(person) ? wants[person] : 0;
        }

        private void setWanted(int person, int deed) {
            if (has(person)) {
                wants[person] = deed;
            }
        }

        private int termOf(int what) {
            return what >= 0 && what < TERMS ? termValues[what] : 0;
        }

        private void setTerm(int what, int value) {
            if (what >= 0 && what < TERMS) {
                termValues[what] = value;
            }
        }

        private int addSeen(int person, int number) {
            if (seen >= 0 && seen < MOST_SEEN) {
                seenBy[seen] = person;
                seenAs[seen] = number;
                seen++;
            }
            return seen;
        }

        private boolean hasLaw(int law) {
            return law >= 0 && law < lawCount && law < MOST_LAWS;
        }

        private Text lawAt(int law) {
            return hasLaw(law) ? laws[law] : null;
        }

        private Text lawInForce() {
            return lawAt(inForce);
        }

        private int addLaw(Text law) {
            if (lawCount < 0 || lawCount >= MOST_LAWS) {
                return NONE;
            }
            laws[lawCount] = law;
            lawCount++;
            return lawCount - 1;
        }
    }

    /** A TEXT that was read: CLAUSES, and their SUMS and TESTS as steps of two numbers each for Sums. */
    private static final class Text {
        private final int[] verbs;
        private final int[] repeats;
        private final int[] uses;
        private final int[] marks;
        private final int[] code;
        private int clauses;
        private int size;

        private Text(int mostClauses, int mostSize) {
            int rows = nearest(mostClauses, 0, MOST_CLAUSES);
            verbs = new int[rows];
            repeats = new int[rows];
            uses = new int[rows];
            marks = new int[rows * MARKS];
            code = new int[nearest(mostSize, 0, 2 * TAPE)];
        }

        private Text copy() {
            Text made = new Text(clauses, size);
            made.clauses = clauses;
            made.size = size;
            System.arraycopy(verbs, 0, made.verbs, 0, clauses);
            System.arraycopy(repeats, 0, made.repeats, 0, clauses);
            System.arraycopy(uses, 0, made.uses, 0, clauses);
            System.arraycopy(marks, 0, made.marks, 0, clauses * MARKS);
            System.arraycopy(code, 0, made.code, 0, size);
            return made;
        }

        private void empty() {
            clauses = 0;
            size = 0;
        }

        private void open(int verb) {
            if (clauses >= 0 && clauses < verbs.length) {
                verbs[clauses] = verb;
                repeats[clauses] = 1;
                uses[clauses] = 0;
                clauses++;
                mark(0);
            }
        }

        /** Marks 0, 1, 2, 3 of a CLAUSE part its first SUM, its second one and its TEST. */
        private void mark(int which) {
            int place = (clauses - 1) * MARKS + which;
            if (place >= 0 && place < marks.length) {
                marks[place] = size;
            }
        }

        private void repeat(int often) {
            int clause = clauses - 1;
            if (clause >= 0 && clause < repeats.length) {
                repeats[clause] = often;
            }
        }

        private int put(int step, int number) {
            int place = size;
            if (place >= 0 && place + 1 < code.length) {
                code[place] = step;
                code[place + 1] = number;
                size = place + 2;
            }
            int clause = clauses - 1;
            if (step == WORD && clause >= 0 && clause < uses.length) {
                uses[clause] |= 1 << number;
            }
            return place;
        }

        /** The step at place leaps to what comes next. */
        private void aim(int place) {
            if (place >= 0 && place + 1 < code.length) {
                code[place + 1] = size;
            }
        }

        private int verbOf(int clause) {
            return clause >= 0 && clause < verbs.length ? verbs[clause] : NONE;
        }

        private int repeatsOf(int clause) {
            return clause >= 0 && clause < repeats.length ? repeats[clause] : 0;
        }

        private int usesOf(int clause) {
            return clause >= 0 && clause < uses.length ? uses[clause] : 0;
        }

        private int markOf(int clause, int which) {
            int place = clause * MARKS + which;
            return place >= 0 && place < marks.length ? marks[place] : 0;
        }
    }

    /** The TAPE, and how both languages are read from it. */
    private static final class Reader {
        private final int[] tape = new int[TAPE];
        private int length;
        /** What each TOKEN is, where it starts, what a NUMBER is worth; behind the last one stands the end. */
        private final int[] tokens = new int[TAPE + 1];
        private final int[] starts = new int[TAPE + 1];
        private final int[] values = new int[TAPE + 1];
        private int tokenCount;
        private int at;
        private int parts;
        private boolean ofLaw;
        private int faultAt = NONE;
        /** Each TOKEN makes one step at most, of two numbers. */
        private final Text text = new Text(MOST_CLAUSES, 2 * TAPE);

        private boolean hasRoomFor(int bytes) {
            return length + bytes <= TAPE;
        }

        private void addFour(int number) {
            for (int shift = 24; shift >= 0; shift -= 8) {
                if (length >= 0 && length < TAPE) {
                    tape[length] = number >> shift & 255;
                    length++;
                }
            }
        }

        private int byteAt(int place) {
            return place >= 0 && place < length && place < TAPE ? tape[place] : NONE;
        }

        private boolean hasSinsAt(int from) {
            for (int place = from; place < from + KINDS; place++) {
                int sin = byteAt(place);
                if (sin < 0 || sin > MOST_SIN) {
                    return false;
                }
            }
            return true;
        }

        /** Reads the TAPE into text; whether it is without FAULT. The TAPE is empty then. */
        private boolean reads(boolean law) {
            ofLaw = law;
            faultAt = NONE;
            parts = 0;
            at = 0;
            text.empty();
            split();
            clause();
            for (int n = 1; n <= MOST_CLAUSES && here() == ';' + SIGNS; n++) {
                at++;
                if (n == MOST_CLAUSES) {
                    fail();
                } else {
                    clause();
                }
            }
            if (here() != THE_END) {
                fail();
            }
            length = 0;
            return faultAt == NONE;
        }

        private void split() {
            tokenCount = 0;
            for (int place = 0; place < length && tokenCount < TAPE; place++) {
                if (startsToken(place)) {
                    int sort = sortOf(byteAt(place));
                    int past = pastToken(place);
                    int sign = sort == DIGIT ? A_NUMBER : byteAt(place) + SIGNS;
                    tokens[tokenCount] = sort == LETTER ? nameOf(place, past) : sign;
                    starts[tokenCount] = place;
                    values[tokenCount] = sort == DIGIT ? numberOf(place, past) : 0;
                    tokenCount++;
                }
            }
            tokens[tokenCount] = THE_END;
            starts[tokenCount] = length;
        }

        private boolean startsToken(int place) {
            int sort = sortOf(byteAt(place));
            return sort == ALONE ? byteAt(place) != BLANK : sortOf(byteAt(place - 1)) != sort;
        }

        private int pastToken(int from) {
            int past = from + 1;
            while (past < length && !startsToken(past) && byteAt(past) != BLANK) {
                past++;
            }
            return past;
        }

        private static int sortOf(int sign) {
            if (sign >= 'a' && sign <= 'z') {
                return LETTER;
            }
            return sign >= '0' && sign <= '9' ? DIGIT : ALONE;
        }

        /** Which of the NAMES stands there; NONE for another. */
        private int nameOf(int from, int past) {
            int name = 0;
            int start = 0;
            for (int i = 0; i < NAMES.length(); i++) {
                if (NAMES.charAt(i) == BLANK) {
                    if (i - start == past - from && isSame(start, from, i - start)) {
                        return name;
                    }
                    name++;
                    start = i + 1;
                }
            }
            return NONE;
        }

        private boolean isSame(int start, int from, int letters) {
            for (int i = 0; i < letters && start + i < NAMES.length(); i++) {
                if (NAMES.charAt(start + i) != byteAt(from + i)) {
                    return false;
                }
            }
            return true;
        }

        /** Cut at one more than the most that a NUMBER can be. */
        private int numberOf(int from, int past) {
            int value = 0;
            for (int place = from; place < past; place++) {
                value = Math.min(value * 10 + byteAt(place) - '0', MOST_NUMBER + 1);
            }
            return value;
        }

        private int here() {
            return at >= 0 && at < tokenCount ? tokens[at] : THE_END;
        }

        /** What the NUMBER here is worth; NONE, if none stands here. */
        private int numberHere() {
            return at >= 0 && at < tokenCount && tokens[at] == A_NUMBER ? values[at] : NONE;
        }

        /** Only the first FAULT counts; behind it the TEXT is as if it ended, so that all reading stops. */
        private void fail() {
            if (faultAt == NONE && at >= 0 && at <= TAPE) {
                faultAt = starts[at];
            }
            at = tokenCount;
        }

        private void expect(int token) {
            if (here() == token) {
                at++;
            } else {
                fail();
            }
        }

        private void clause() {
            int verb = here() - (ofLaw ? 0 : GRINDS_TO_BARS);
            if (verb < 0 || verb > (ofLaw ? BARS : PASS)) {
                fail();
                return;
            }
            at++;
            text.open(verb);
            if (verb != (ofLaw ? BARS : PASS)) {
                sum(0);
            }
            text.mark(1);
            if (!ofLaw) {
                restOfOrder(verb);
            }
            text.mark(2);
            if (here() == IF) {
                at++;
                test(0);
            }
            text.mark(3);
        }

        private void restOfOrder(int verb) {
            if (verb == SIN || verb == SWAP) {
                expect(verb == SIN ? OF : WITH);
                sum(0);
            }
            if (here() == TIMES) {
                at++;
                int often = numberHere();
                if (often < 1 || often > MOST_TIMES) {
                    fail();
                } else {
                    at++;
                    text.repeat(often);
                }
            }
        }

        private void test(int depth) {
            both(depth);
            for (int n = 0; n < TAPE && here() == OR_NAME; n++) {
                at++;
                int leap = text.put(OR, 0);
                both(depth);
                text.aim(leap);
            }
        }

        private void both(int depth) {
            plain(depth);
            for (int n = 0; n < TAPE && here() == AND_NAME; n++) {
                at++;
                int leap = text.put(AND, 0);
                plain(depth);
                text.aim(leap);
            }
        }

        /** A row of "not" is counted, for as a recursion it could go a hundred deep. */
        private void plain(int depth) {
            boolean turned = false;
            for (int n = 0; n < TAPE && here() == NOT_NAME; n++) {
                at++;
                turned = !turned;
            }
            if (here() != '(' + SIGNS) {
                comparison(depth);
            } else if (depth >= MOST_BRACKETS) {
                fail();
            } else {
                at++;
                test(depth + 1);
                expect(')' + SIGNS);
            }
            if (turned) {
                text.put(NOT, 0);
            }
        }

        private void comparison(int depth) {
            sum(depth);
            int step = stepOf(here());
            if (step < LESS || step > SAME) {
                fail();
                return;
            }
            at++;
            sum(depth);
            text.put(step, 0);
        }

        private void sum(int depth) {
            term(depth);
            for (int n = 0; n < TAPE; n++) {
                int step = stepOf(here());
                if (step != ADD && step != TAKE) {
                    return;
                }
                at++;
                term(depth);
                text.put(step, 0);
            }
        }

        private void term(int depth) {
            part(depth);
            for (int n = 0; n < TAPE; n++) {
                int step = stepOf(here());
                if (step != MULTIPLY && step != DIVIDE && step != LEFT_OVER) {
                    return;
                }
                at++;
                part(depth);
                text.put(step, 0);
            }
        }

        private static int stepOf(int token) {
            switch (token - SIGNS) {
                case '+':
                    return ADD;
                case '-':
                    return TAKE;
                case '*':
                    return MULTIPLY;
                case '/':
                    return DIVIDE;
                case '%':
                    return LEFT_OVER;
                case '<':
                    return LESS;
                case '>':
                    return MORE;
                case '=':
                    return SAME;
                default:
                    return NONE;
            }
        }

        private void part(int depth) {
            if (here() != '[' + SIGNS) {
                simplePart();
            } else if (depth >= MOST_BRACKETS) {
                fail();
            } else {
                at++;
                sum(depth + 1);
                expect(']' + SIGNS);
            }
        }

        private void simplePart() {
            int number = numberHere();
            int word = ofLaw ? lawWord(here()) : orderWord(here());
            if (parts >= MOST_PARTS || number > MOST_NUMBER || number == NONE && word == NONE) {
                fail();
                return;
            }
            parts++;
            at++;
            if (!ofLaw && word >= NOW_SINS) {
                int person = numberHere();
                if (person < 0 || person >= MOST_PEOPLE) {
                    fail();
                    return;
                }
                at++;
                word += person;
            }
            text.put(word == NONE ? PUT : WORD, word == NONE ? number : word);
        }

        private static int lawWord(int token) {
            switch (token) {
                case PERSON_NAME:
                    return WORD_PERSON;
                case KIND_NAME:
                    return WORD_KIND;
                case SIN_NAME:
                    return WORD_SIN;
                case SINS_NAME:
                    return WORD_SINS;
                case SIGHT_NAME:
                    return WORD_SIGHT;
                case LIT_NAME:
                    return WORD_LIT;
                case FIRST_NAME:
                    return WORD_FIRST;
                case DAY_NAME:
                    return WORD_DAY;
                case MOOD_NAME:
                    return WORD_MOOD;
                default:
                    return NONE;
            }
        }

        private static int orderWord(int token) {
            switch (token) {
                case DAY_NAME:
                    return NOW_DAY;
                case DONE_NAME:
                    return NOW_DONE;
                case LATEST_NAME:
                    return NOW_LATEST;
                case SCENE_NAME:
                    return NOW_SCENE;
                case SINS_NAME:
                    return NOW_SINS;
                case SIGHT_NAME:
                    return NOW_SIGHT;
                case DOES_NAME:
                    return NOW_DOES;
                default:
                    return NONE;
            }
        }
    }

    /** What SUMS and TESTS come to. */
    private static final class Sums {
        /** Eight brackets leave two numbers waiting each, a comparison one. */
        private static final int DEEPEST = 32;

        private final long[] stack = new long[DEEPEST];

        /** The steps from .. to of a TEXT: a number, 1 or 0 for a TEST, or BROKEN. */
        private int worth(Text text, int from, int to, int[] words) {
            int[] code = text.code;
            int top = 0;
            int at = from;
            for (int n = 0; n < TAPE && at >= 0 && at < to && at + 1 < code.length; n++) {
                int step = code[at];
                int number = code[at + 1];
                at += 2;
                if (step == PUT || step == WORD) {
                    if (top >= DEEPEST) {
                        return BROKEN;
                    }
                    stack[top] = step == PUT ? number : wordAt(words, number);
                    top++;
                } else if (top < 1 || top > DEEPEST) {
                    return BROKEN;
                } else if (step == NOT) {
                    stack[top - 1] = 1 - stack[top - 1];
                } else if (step == OR || step == AND) {
                    // What stands behind is not asked, if this settles it.
                    boolean settled = stack[top - 1] == (step == OR ? 1 : 0);
                    at = settled ? number : at;
                    top = settled ? top : top - 1;
                } else {
                    if (top < 2) {
                        return BROKEN;
                    }
                    top--;
                    stack[top - 1] = joined(step, stack[top - 1], stack[top]);
                    if (stack[top - 1] > WIDEST || stack[top - 1] < -WIDEST) {
                        return BROKEN;
                    }
                }
            }
            return top == 1 ? (int) stack[0] : BROKEN;
        }

        private static int wordAt(int[] words, int word) {
            return word >= 0 && word < words.length ? words[word] : NONE;
        }

        /** Beyond WIDEST for what is divided by 0. */
        private static long joined(int step, long left, long right) {
            switch (step) {
                case ADD:
                    return left + right;
                case TAKE:
                    return left - right;
                case MULTIPLY:
                    return left * right;
                case DIVIDE:
                    return right == 0 ? WIDEST + 1 : left / right;
                case LEFT_OVER:
                    return right == 0 ? WIDEST + 1 : left % right;
                case LESS:
                    return left < right ? 1 : 0;
                case MORE:
                    return left > right ? 1 : 0;
                default:
                    return left == right ? 1 : 0;
            }
        }
    }

    /** What a LAW tells of a PERSON, of a SIN. */
    private static final class Judge {
        private final int[] words = new int[LAW_WORDS];
        private final Sums sums = new Sums();

        private int lensFor(Parish parish, Text law, int person, int kind) {
            aboutSin(parish, person, kind);
            int told = lastTold(law, GRINDS);
            if (told != BROKEN) {
                return nearest(told, 0, LENSES - 1);
            }
            return parish.sinOf(person, kind) >= 4 ? kind + 1 : 0;
        }

        private int growth(Parish parish, int person, int kind) {
            aboutSin(parish, person, kind);
            int told = lastTold(parish.lawInForce(), GROWS);
            return told == BROKEN ? 0 : nearest(told, -MOST_SIN, MOST_SIN);
        }

        private int deed(Parish parish, int person, int sight) {
            aboutPerson(parish, person, sight);
            int told = lastTold(parish.lawInForce(), DOES);
            return told == BROKEN ? Optics.litCells(sight) % 4 : nearest(told, 0, MOST_DEED);
        }

        private boolean bars(Parish parish, int person) {
            aboutPerson(parish, person, parish.sightOf(person));
            return lastTold(parish.lawInForce(), BARS) != BROKEN;
        }

        private int glassBy(Parish parish, Text law, int person) {
            int glass = 0;
            for (int kind = 0; kind < KINDS; kind++) {
                int lens = lensFor(parish, law, person, kind);
                if (lens != 0) {
                    glass = glass * 10 + lens + 1;
                }
            }
            return glass;
        }

        private void aboutSin(Parish parish, int person, int kind) {
            words[WORD_PERSON] = person;
            words[WORD_KIND] = kind;
            words[WORD_SIN] = parish.sinOf(person, kind);
            words[WORD_SINS] = parish.sinsOf(person);
            words[WORD_SIGHT] = NONE;
            words[WORD_LIT] = NONE;
            words[WORD_FIRST] = NONE;
            words[WORD_DAY] = parish.termOf(DAY);
            words[WORD_MOOD] = parish.termOf(MOOD);
        }

        private void aboutPerson(Parish parish, int person, int sight) {
            words[WORD_PERSON] = person;
            words[WORD_KIND] = NONE;
            words[WORD_SIN] = NONE;
            words[WORD_SINS] = parish.sinsOf(person);
            words[WORD_SIGHT] = sight;
            words[WORD_LIT] = Optics.litCells(sight);
            words[WORD_FIRST] = Optics.lowestLit(sight);
            words[WORD_DAY] = parish.termOf(DAY);
            words[WORD_MOOD] = parish.termOf(MOOD);
        }

        /** What the last CLAUSE of a verb that HOLDS tells (1 for "bars"); BROKEN, if none does. */
        private int lastTold(Text law, int verb) {
            if (law == null) {
                return BROKEN;
            }
            for (int clause = law.clauses - 1; clause >= 0; clause--) {
                if (law.verbOf(clause) != verb) {
                    continue;
                }
                int first = law.markOf(clause, 0);
                int test = law.markOf(clause, 2);
                int last = law.markOf(clause, 3);
                if (test < last && sums.worth(law, test, last, words) != 1) {
                    continue;
                }
                int told = verb == BARS ? 1 : sums.worth(law, first, test, words);
                if (told != BROKEN) {
                    return told;
                }
            }
            return BROKEN;
        }
    }

    /** What can be undone: what the parish was ahead of each of the latest sixteen deeds. */
    private static final class Trail {
        private static final int KEPT = 16;
        private static final int SOULS = MOST_PEOPLE * KINDS;
        private static final int GLASSES = SOULS;
        private static final int DATE = GLASSES + MOST_PEOPLE;
        private static final int WHICH = DATE + 1;
        private static final int WIDTH = WHICH + 1;

        private final int[] rows = new int[KEPT * WIDTH];
        private int next;
        private int held;

        private void empty() {
            held = 0;
        }

        private void copyFrom(Trail other) {
            System.arraycopy(other.rows, 0, rows, 0, KEPT * WIDTH);
            next = other.next;
            held = other.held;
        }

        private void remember(Parish parish, int which) {
            int row = Math.floorMod(next, KEPT) * WIDTH;
            System.arraycopy(parish.sins, 0, rows, row, SOULS);
            System.arraycopy(parish.glasses, 0, rows, row + GLASSES, MOST_PEOPLE);
            rows[row + DATE] = parish.termOf(DAY);
            rows[row + WHICH] = which;
            next = Math.floorMod(next + 1, KEPT);
            held = Math.min(held + 1, KEPT);
        }

        /** Which deed was undone. */
        private int goBack(Parish parish) {
            next = Math.floorMod(next - 1, KEPT);
            held = Math.max(held - 1, 0);
            int row = next * WIDTH;
            System.arraycopy(rows, row, parish.sins, 0, SOULS);
            System.arraycopy(rows, row + GLASSES, parish.glasses, 0, MOST_PEOPLE);
            parish.setTerm(DAY, rows[row + DATE]);
            return rows[row + WHICH];
        }
    }

    /** SINS, grindings, exchanges, CLOTHS, DAYS, and MONTHS of them. */
    private static final class Deeds {
        private final Judge judge = new Judge();
        private final int[] growths = new int[MOST_PEOPLE * KINDS];

        /** What the deed tells, or what it is REFUSED by. */
        private int act(Parish parish, Trail trail, int which, int one, int other, int by) {
            int refusal = refusalOf(parish, which, one, other, by);
            if (refusal != 0) {
                return refusal;
            }
            trail.remember(parish, which);
            switch (which) {
                case SIN:
                    parish.setSin(one, other, parish.sinOf(one, other) + by);
                    return parish.sinOf(one, other);
                case GRIND:
                    parish.setGlass(one, judge.glassBy(parish, parish.lawInForce(), one));
                    return Optics.lensesIn(parish.glassOf(one));
                case SWAP:
                    return exchange(parish, one, other);
                case CLOTH:
                    return takeOff(parish, one);
                default:
                    return nextDay(parish);
            }
        }

        /** 0, if the deed can be. */
        private int refusalOf(Parish parish, int which, int one, int other, int by) {
            switch (which) {
                case SIN:
                    return refusalOfSin(parish, one, other, by);
                case GRIND:
                    if (!parish.has(one)) {
                        return NO_SUCH;
                    }
                    return judge.bars(parish, one) ? CANNOT_BE : 0;
                case SWAP:
                    if (one == other) {
                        return BAD_NUMBER;
                    }
                    return parish.has(one) && parish.has(other) ? 0 : NO_SUCH;
                case CLOTH:
                    if (!parish.has(one)) {
                        return NO_SUCH;
                    }
                    return parish.glassOf(one) == 0 ? CANNOT_BE : 0;
                default:
                    return parish.termOf(DAY) >= LAST_DAY ? CANNOT_BE : 0;
            }
        }

        private static int refusalOfSin(Parish parish, int person, int kind, int by) {
            if (!isKind(kind) || by < -MOST_SIN || by > MOST_SIN) {
                return BAD_NUMBER;
            }
            if (!parish.has(person)) {
                return NO_SUCH;
            }
            int sin = parish.sinOf(person, kind) + by;
            return sin < 0 || sin > MOST_SIN ? CANNOT_BE : 0;
        }

        private static int exchange(Parish parish, int one, int other) {
            int glass = parish.glassOf(one);
            parish.setGlass(one, parish.glassOf(other));
            parish.setGlass(other, glass);
            return Optics.lensesIn(glass) + Optics.lensesIn(parish.glassOf(one));
        }

        private static int takeOff(Parish parish, int person) {
            int had = Optics.lensesIn(parish.glassOf(person));
            parish.setGlass(person, 0);
            return had;
        }

        /** All growths are asked ahead of the first that is done, for one SIN can bear on another's. */
        private int nextDay(Parish parish) {
            for (int place = 0; place < parish.people * KINDS && place < growths.length; place++) {
                growths[place] = judge.growth(parish, place / KINDS, place % KINDS);
            }
            for (int place = 0; place < parish.people * KINDS && place < growths.length; place++) {
                int sin = parish.sinOf(place / KINDS, place % KINDS);
                parish.setSin(place / KINDS, place % KINDS, sin + growths[place]);
            }
            parish.setTerm(DAY, parish.termOf(DAY) + 1);
            return parish.termOf(DAY);
        }

        /** How often one was ground for. */
        private int drawDays(Parish parish, int seed, int days) {
            int people = parish.people;
            if (people <= 0) {
                return 0;
            }
            int often = 0;
            int s = seed;
            for (int n = 0; n < days && parish.termOf(DAY) < LAST_DAY; n++) {
                s = drawBehind(s);
                int person = s % people;
                s = drawBehind(s);
                int kind = s % KINDS;
                s = drawBehind(s);
                int what = s % 3;
                if (what != 1) {
                    parish.setSin(person, kind, parish.sinOf(person, kind) + 1 - what);
                } else if (!judge.bars(parish, person)) {
                    parish.setGlass(person, judge.glassBy(parish, parish.lawInForce(), person));
                    often++;
                }
                nextDay(parish);
            }
            return often;
        }

        private static int drawBehind(int s) {
            return (int) ((s * 1103L + 12345) % 1000003);
        }
    }

    /** Runs ORDERS wholly or not at all. */
    private static final class Clerk {
        private final Parish ahead = new Parish();
        private final Trail trailAhead = new Trail();
        private final Judge judge = new Judge();
        private final Deeds deeds = new Deeds();
        private final Sums sums = new Sums();
        private final int[] words = new int[ORDER_WORDS];
        private int done;
        private int latest;

        private void begin(Parish parish, Trail trail) {
            ahead.copyFrom(parish);
            trailAhead.copyFrom(trail);
            done = 0;
            latest = NONE;
        }

        private void takeBack(Parish parish, Trail trail) {
            parish.copyFrom(ahead);
            trail.copyFrom(trailAhead);
        }

        /** False, if it can't be. */
        private boolean runOnce(Text text, int clause, Parish parish, Trail trail) {
            learnWords(text.usesOf(clause), parish);
            int first = text.markOf(clause, 0);
            int second = text.markOf(clause, 1);
            int test = text.markOf(clause, 2);
            int last = text.markOf(clause, 3);
            if (test < last && sums.worth(text, test, last, words) != 1) {
                return true;
            }
            int one = first < second ? sums.worth(text, first, second, words) : 0;
            int other = second < test ? sums.worth(text, second, test, words) : 0;
            if (one == BROKEN || other == BROKEN) {
                return false;
            }
            int verb = text.verbOf(clause);
            int told = deeds.act(parish, trail, verb, one, other, 1);
            if (told < 0) {
                return false;
            }
            done++;
            latest = verb == GRIND ? told : latest;
            return true;
        }

        /** Only words that the CLAUSE uses, for "does" asks the LAW. */
        private void learnWords(int uses, Parish parish) {
            words[NOW_DAY] = parish.termOf(DAY);
            words[NOW_DONE] = done;
            words[NOW_LATEST] = latest;
            words[NOW_SCENE] = parish.termOf(SCENE);
            for (int person = 0; person < MOST_PEOPLE; person++) {
                boolean here = parish.has(person);
                int sight = parish.sightOf(person);
                words[NOW_SINS + person] = here ? parish.sinsOf(person) : NONE;
                words[NOW_SIGHT + person] = here ? sight : NONE;
                if ((uses >> NOW_DOES + person & 1) == 1) {
                    words[NOW_DOES + person] = here ? judge.deed(parish, person, sight) : NONE;
                }
            }
        }
    }

    /** What is found out on paper: nothing of the parish is changed by it. */
    private static final class Paper {
        private static final long ALL_PARTS = 1_000_000_000_000L;
        /** There are 23 of four LENSES, and fewer of fewer. */
        private static final int MOST_IDLE = 32;

        private final Judge judge = new Judge();
        private final int[] queue = new int[NUMBERS];
        private final int[] cameOf = new int[NUMBERS];
        private final int[] cameBy = new int[NUMBERS];
        private final int[] farOff = new int[NUMBERS];
        private final int[] possible = new int[NUMBERS];
        private final int[] tally = new int[NUMBERS];
        private final int[] fits = new int[MOST_PEOPLE * MOST_PEOPLE];
        private final int[] bestBehind = new int[1 << MOST_PEOPLE];
        private final int[][] idleRows = new int[MOST_LENSES + 1][MOST_IDLE];
        private final int[] idleCounts = {NONE, NONE, NONE, NONE, NONE};
        private final long[] shares = new long[MOST_WEAK + 1];

        private int cureOf(Parish parish, int person, int i) {
            int scene = parish.termOf(SCENE);
            spread(parish.sightOf(person));
            int fewest = scene >= 0 && scene < NUMBERS ? farOff[scene] : NONE;
            if (fewest == NONE || i == NONE) {
                return fewest;
            }
            return i < fewest ? lensOnTheWay(scene, fewest - 1 - i) : NONE;
        }

        /** How many LENSES off each number is; the first row of LENSES finds each, for they are tried rising. */
        private void spread(int from) {
            for (int x = 0; x < NUMBERS; x++) {
                farOff[x] = NONE;
            }
            if (!isNumber(from)) {
                return;
            }
            farOff[from] = 0;
            queue[0] = from;
            int found = 1;
            for (int next = 0; next < found && next < NUMBERS; next++) {
                int x = queue[next];
                for (int lens = 1; lens < LENSES; lens++) {
                    int made = Optics.bend(lens, x);
                    if (isNumber(made) && farOff[made] == NONE && found < NUMBERS) {
                        farOff[made] = farOff[x] + 1;
                        cameOf[made] = x;
                        cameBy[made] = lens;
                        queue[found] = made;
                        found++;
                    }
                }
            }
        }

        private int lensOnTheWay(int scene, int stepsBack) {
            int x = scene;
            for (int n = 0; n < stepsBack && isNumber(x); n++) {
                x = cameOf[x];
            }
            return isNumber(x) ? cameBy[x] : NONE;
        }

        private int sceneAt(Parish parish, int i) {
            int found = findScenes(parish);
            if (i == NONE) {
                return found;
            }
            return i < found && i < NUMBERS ? possible[i] : NONE;
        }

        private int findScenes(Parish parish) {
            int found = 0;
            for (int scene = 0; scene < NUMBERS; scene++) {
                if (agrees(parish, scene)) {
                    possible[found] = scene;
                    found++;
                }
            }
            return found;
        }

        private static boolean agrees(Parish parish, int scene) {
            for (int n = 0; n < parish.seen && n < MOST_SEEN; n++) {
                int glass = parish.glassOf(parish.seenBy[n]);
                if (Optics.through(glass, scene) != parish.seenAs[n]) {
                    return false;
                }
            }
            return true;
        }

        private int toAsk(Parish parish, boolean whom) {
            int found = findScenes(parish);
            int asked = NONE;
            int fewest = NUMBERS + 1;
            for (int person = 0; person < parish.people && found > 0; person++) {
                int left = mostAlike(parish.glassOf(person), found);
                if (left < fewest) {
                    fewest = left;
                    asked = person;
                }
            }
            return whom || asked == NONE ? asked : fewest;
        }

        private int mostAlike(int glass, int found) {
            for (int x = 0; x < NUMBERS; x++) {
                tally[x] = 0;
            }
            int most = 0;
            for (int n = 0; n < found && n < NUMBERS; n++) {
                int sight = Optics.through(glass, possible[n]);
                if (isNumber(sight)) {
                    tally[sight]++;
                    most = Math.max(most, tally[sight]);
                }
            }
            return most;
        }

        private int mixedAt(Parish parish, int i) {
            int found = 0;
            for (int low = 0; low < parish.people; low++) {
                for (int high = low + 1; high < parish.people; high++) {
                    if (explains(parish, low, high)) {
                        if (found == i) {
                            return low * 10 + high;
                        }
                        found++;
                    }
                }
            }
            return i == NONE ? found : NONE;
        }

        private static boolean explains(Parish parish, int low, int high) {
            for (int n = 0; n < parish.seen && n < MOST_SEEN; n++) {
                int person = parish.seenBy[n];
                int whose = person == low ? high : person == high ? low : person;
                if (parish.sightOf(whose) != parish.seenAs[n]) {
                    return false;
                }
            }
            return true;
        }

        /** How many DO what is WANTED at most (0), whose GLASS PERSON what less 1 has then. */
        private int fit(Parish parish, int what) {
            int people = Math.min(parish.people, MOST_PEOPLE);
            learnFits(parish, people);
            learnBest(people);
            if (what <= 0) {
                return bestBehind[0];
            }
            int given = 0;
            int glass = NONE;
            for (int person = 0; person < people && person < what; person++) {
                glass = firstBest(person, people, given);
                given |= 1 << Math.max(glass, 0);
            }
            return glass;
        }

        private void learnFits(Parish parish, int people) {
            for (int person = 0; person < people; person++) {
                for (int whose = 0; whose < people; whose++) {
                    int deed = judge.deed(parish, person, parish.sightOf(whose));
                    fits[person * MOST_PEOPLE + whose] = deed == parish.wantedOf(person) ? 1 : 0;
                }
            }
        }

        /** For each set of GLASSES that the first PEOPLE have: how many of the others can DO what is WANTED. */
        private void learnBest(int people) {
            int all = (1 << people) - 1;
            bestBehind[all] = 0;
            for (int given = all - 1; given >= 0; given--) {
                int person = Integer.bitCount(given);
                bestBehind[given] = 0;
                for (int glass = 0; glass < people; glass++) {
                    bestBehind[given] = Math.max(bestBehind[given], bestWith(person, glass, given));
                }
            }
        }

        /** NONE, if that GLASS is given already. */
        private int bestWith(int person, int glass, int given) {
            int then = given | 1 << glass;
            int place = person * MOST_PEOPLE + glass;
            if (then == given || then < 0 || then >= bestBehind.length || place < 0 || place >= fits.length) {
                return NONE;
            }
            return fits[place] + bestBehind[then];
        }

        private int firstBest(int person, int people, int given) {
            for (int glass = 0; glass < people; glass++) {
                if (given >= 0 && given < bestBehind.length && bestWith(person, glass, given) == bestBehind[given]) {
                    return glass;
                }
            }
            return NONE;
        }

        private int sinsBehind(Parish parish, int person, int kind, int lens) {
            int was = parish.sinOf(person, kind);
            int bits = 0;
            for (int sin = 0; sin <= MOST_SIN; sin++) {
                parish.setSin(person, kind, sin);
                if (judge.lensFor(parish, parish.lawInForce(), person, kind) == lens) {
                    bits |= 1 << sin;
                }
            }
            parish.setSin(person, kind, was);
            return bits;
        }

        private int idleAt(int n, int i) {
            if (n < 1 || n > MOST_LENSES) {
                return NONE;
            }
            if (idleCounts[n] == NONE) {
                findIdle(n);
            }
            if (i == NONE) {
                return idleCounts[n];
            }
            return i >= 0 && i < idleCounts[n] && i < MOST_IDLE ? idleRows[n][i] : NONE;
        }

        /** They never change, so they are looked for once. */
        private void findIdle(int n) {
            int rows = 1;
            int ones = 0;
            for (int lens = 0; lens < n; lens++) {
                rows *= LENSES - 1;
                ones = ones * 10 + 1;
            }
            int found = 0;
            for (int code = 0; code < rows; code++) {
                int row = rowOf(code, n);
                if (changesNothing(row + ones) && found < MOST_IDLE) {
                    idleRows[n][found] = row;
                    found++;
                }
            }
            idleCounts[n] = found;
        }

        /** The code's digits by sevens, each one more, as digits by tens. */
        private static int rowOf(int code, int n) {
            int row = 0;
            int rest = code;
            int place = 1;
            for (int lens = 0; lens < n; lens++) {
                row += (rest % (LENSES - 1) + 1) * place;
                rest /= LENSES - 1;
                place *= 10;
            }
            return row;
        }

        private static boolean changesNothing(int glass) {
            for (int x = 0; x < NUMBERS; x++) {
                if (Optics.through(glass, x) != x) {
                    return false;
                }
            }
            return true;
        }

        /** A LENS 0 changes nothing, so no GLASS of the fewest has one. */
        private int mildestFor(Parish parish, int person) {
            if (suits(parish, person, 0)) {
                return 0;
            }
            for (int lens = 1; lens < LENSES; lens++) {
                if (suits(parish, person, lens + 1)) {
                    return lens + 1;
                }
            }
            for (int first = 1; first < LENSES; first++) {
                for (int second = 1; second < LENSES; second++) {
                    int glass = (first + 1) * 10 + second + 1;
                    if (suits(parish, person, glass)) {
                        return glass;
                    }
                }
            }
            return NONE;
        }

        private boolean suits(Parish parish, int person, int glass) {
            int sight = Optics.through(glass, parish.termOf(SCENE));
            return judge.deed(parish, person, sight) == parish.wantedOf(person);
        }

        private long chance(int weak, int k, int n) {
            if (k < 0 || k >= shares.length) {
                return NONE;
            }
            for (int have = 0; have <= k; have++) {
                shares[have] = 0;
            }
            shares[0] = ALL_PARTS;
            for (int person = 0; person < n; person++) {
                // From above, so that each share is moved on once a PERSON.
                for (int have = k - 1; have >= 0; have--) {
                    shares[have + 1] += shares[have] * weak / 10;
                    shares[have] = shares[have] * (10 - weak) / 10;
                }
            }
            return shares[k];
        }
    }
}
