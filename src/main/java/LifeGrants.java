/**
 * Grants of one field, told as texts of who shall have it for how long and if what, and the
 * courses of lives by which it goes from hand to hand. The document is ../shared/DOC.md; words in
 * capitals here are its words.
 */
public final class LifeGrants {
    public static final int NONE = -1, BAD = -2, STATE = -3, FULL = -4;

    private static final int NOT = -5, ANOTHER_KIND = -6, FAULT_FROM = -10, NO_MEND = -100;

    private static final int PERSONS = 8, MAYBES = 6, PEOPLE = PERSONS + MAYBES, DEEDS = 4;
    private static final int OLDEST = 90, YEARS = 41, LAST_YEAR = YEARS - 1;
    private static final int COURSES = 1 << MAYBES;
    private static final int GRANTS = 6, CLAUSES = 6, TAPE = 80, TRACE = 20;
    private static final int MOST_CHANGE = 5, GREATEST_NUMBER = 99;

    // Far behind the last YEAR, so that adding a few YEARS to it never comes back among them.
    private static final int NEVER = 1000;

    // The KINDS of MAYBES.
    private static final int BIRTH = 0, DEATH = 1, WEDDING = 2, DEED = 3;

    // The parts of a CLAUSE: each is a letter and a number.
    private static final int SHIFT_PART = 0, WHO_PART = 1, TERM_PART = 2, IF_PART = 3, PARTS = 4;

    // The KINDS of INTERESTS, and of each the KIND above it.
    private static final int INTEREST = 0, NOW = 1, BEHIND = 2, SHIFT = 3, IF = 4, CLASS = 5, LATER = 6;
    private static final int[] ABOVE = {-1, INTEREST, INTEREST, INTEREST, BEHIND, BEHIND, SHIFT};

    private final World world = new World();
    private final World kept = new World();
    private boolean isKept;
    private final Course[] courses = new Course[COURSES];
    private final Run run = new Run();
    private final Run secondRun = new Run();
    private final Reader reader = new Reader();
    private final Grant draft = new Grant();
    private final Interest interest = new Interest();

    public LifeGrants() {
        for (int set = 0; set < courses.length; set++) {
            courses[set] = new Course();
        }
    }

    // ---- persons, what may come

    public int person(int age, int parent) {
        if (parent != -1 && !world.isPerson(parent)) {
            return NONE;
        }
        if (age < 0 || age > OLDEST) {
            return BAD;
        }
        if (parent != -1 && age >= at(world.age, parent)) {
            return STATE;
        }
        if (world.persons >= PERSONS) {
            return FULL;
        }
        put(world.age, world.persons, age);
        put(world.parent, world.persons, parent);
        world.persons++;
        forgetCourses();
        return world.persons - 1;
    }

    public int maybe(int kind, int who, int year) {
        if (kind < BIRTH || kind > DEED) {
            return NONE;
        }
        if (kind == DEED ? who < 0 || who >= DEEDS : !world.isPerson(who) && !world.isChild(who)) {
            return NONE;
        }
        if (year < 1 || year > LAST_YEAR) {
            return BAD;
        }
        if (world.maybes >= MAYBES) {
            return FULL;
        }
        put(world.kind, world.maybes, kind);
        put(world.who, world.maybes, who);
        put(world.year, world.maybes, year);
        world.maybes++;
        forgetCourses();
        return world.maybes - 1;
    }

    public int life(int person, int course, int year, int what) {
        if (!isOneOfPeople(person) || what < 0 || what > 2) {
            return NONE;
        }
        if (!isCourse(course) || !isYear(year)) {
            return BAD;
        }
        Course lives = courseOf(course);
        if (what == 0) {
            return at(lives.alive, year) >> person & 1;
        }
        if (what == 2) {
            return at(lives.wed, year) >> person & 1;
        }
        int birth = at(lives.birth, person);
        return birth > year ? NOT : year - birth;
    }

    // ---- grants

    public int feed(long w, int n) {
        if (n < 1 || n > 8) {
            return BAD;
        }
        if (world.tapeSize + n > TAPE) {
            return FULL;
        }
        for (int left = n - 1; left >= 0; left--) {
            put(world.tape, world.tapeSize, (int) (w >> 8 * left & 255));
            world.tapeSize++;
        }
        return world.tapeSize;
    }

    public int grant() {
        if (world.grants >= GRANTS) {
            return FULL;
        }
        int fault = reader.read(world.tape, world.tapeSize);
        world.tapeSize = 0;
        return fault >= 0 ? FAULT_FROM - fault : world.keep(reader.grant);
    }

    public int told(int grant, int i) {
        Grant words = world.grantAt(grant);
        if (words == null) {
            return NONE;
        }
        switch (i) {
            case -1: return words.clauses;
            case -2: return words.numbersIn();
            default: break;
        }
        int place = words.placeOfNumber(i);
        return place < 0 ? NONE : at(words.numbers, place);
    }

    // ---- courses

    public int has(int grant, int course, int year, int what) {
        Grant words = world.grantAt(grant);
        if (words == null || what < 0 || what > 1) {
            return NONE;
        }
        if (!isCourse(course) || !isYear(year)) {
            return BAD;
        }
        run.go(words, courseOf(course));
        return at(what == 0 ? run.holders : run.clauses, year);
    }

    public int began(int grant, int clause, int course) {
        Grant words = world.grantAt(grant);
        if (words == null || !words.hasClause(clause)) {
            return NONE;
        }
        if (!isCourse(course)) {
            return BAD;
        }
        run.go(words, courseOf(course));
        return at(run.began, clause);
    }

    public int sure(int grant, int clause, int what) {
        Grant words = world.grantAt(grant);
        if (words == null || !words.hasClause(clause) || what < 0 || what > 2) {
            return NONE;
        }
        long begins = 0;
        for (int set = 0; set < coursesThereAre(); set++) {
            run.go(words, courseOf(set));
            if (at(run.began, clause) != NOT) {
                begins |= 1L << set;
            }
        }
        if (what == 1) {
            return fewest(begins);
        }
        int howMany = Long.bitCount(begins);
        if (what == 2) {
            return howMany;
        }
        return howMany == coursesThereAre() ? 2 : howMany > 0 ? 1 : 0;
    }

    public int holders(int grant, int what) {
        Grant words = world.grantAt(grant);
        if (words == null || what < 0 || what > 1) {
            return NONE;
        }
        int inSome = 0;
        int inAll = -1;
        for (int set = 0; set < coursesThereAre(); set++) {
            run.go(words, courseOf(set));
            int inThis = 0;
            for (int year = 0; year < YEARS; year++) {
                inThis |= at(run.holders, year);
            }
            inSome |= inThis;
            inAll &= inThis;
        }
        return what == 0 ? inSome : inAll;
    }

    public int share(int grant, int person, int course, int year) {
        Grant words = world.grantAt(grant);
        if (words == null || !isOneOfPeople(person)) {
            return NONE;
        }
        if (!isCourse(course) || !isYear(year)) {
            return BAD;
        }
        run.go(words, courseOf(course));
        int holders = at(run.holders, year);
        return (holders >> person & 1) == 0 ? 0 : Integer.bitCount(holders);
    }

    public int judged(int grant, int course) {
        Grant words = world.grantAt(grant);
        if (words == null) {
            return NONE;
        }
        if (!isCourse(course)) {
            return BAD;
        }
        run.go(words, courseOf(course));
        for (int year = 0; year < world.rowSize; year++) {
            if (at(world.row, year) != at(run.holders, year)) {
                return year;
            }
        }
        return NOT;
    }

    public int row(int set) {
        if (set == -1) {
            world.rowSize = 0;
            return 0;
        }
        if (set < 0 || set >= 1 << PEOPLE) {
            return BAD;
        }
        if (world.rowSize >= YEARS) {
            return FULL;
        }
        put(world.row, world.rowSize, set);
        world.rowSize++;
        return world.rowSize;
    }

    // ---- too late

    public int late(int grant, int clause, int n, int what) {
        Grant words = world.grantAt(grant);
        if (words == null || !words.hasClause(clause) || what < 0 || what > 1) {
            return NONE;
        }
        if (!isYear(n)) {
            return BAD;
        }
        long late = coursesOfLate(words, clause, n);
        if (what == 1) {
            return fewest(late);
        }
        return late == 0 ? 0 : 1;
    }

    public int measure(int course) {
        return isCourse(course) ? courseOf(course).lastToDie : BAD;
    }

    public int see(int grant, int clause, int course, int n) {
        Grant words = world.grantAt(grant);
        if (words == null || !words.hasClause(clause)) {
            return NONE;
        }
        if (!isCourse(course) || !isYear(n)) {
            return BAD;
        }
        long late = coursesOfLate(words, clause, n);
        for (int year = 0; year < LAST_YEAR; year++) {
            if (isSettled(late, course, world.maybesUpTo(year))) {
                return year;
            }
        }
        return LAST_YEAR;
    }

    public int strike(int grant, int n) {
        Grant words = world.grantAt(grant);
        if (words == null) {
            return NONE;
        }
        if (!isYear(n)) {
            return BAD;
        }
        int struck = lateClauses(words, n) & ~1;
        if (struck == 0) {
            return STATE;
        }
        if (world.grants >= GRANTS) {
            return FULL;
        }
        draft.repeatWithout(words, struck);
        return world.keep(draft);
    }

    public int mend(int grant, int i, int n) {
        Grant words = world.grantAt(grant);
        int place = words == null ? -1 : words.placeOfNumber(i);
        if (words == null || place < 0) {
            return NONE;
        }
        if (!isYear(n)) {
            return BAD;
        }
        if (lateClauses(words, n) == 0) {
            return 0;
        }
        draft.repeat(words);
        int number = at(words.numbers, place);
        for (int k = 0; k < 2 * MOST_CHANGE; k++) {
            int change = k % 2 == 0 ? -(k / 2 + 1) : k / 2 + 1;
            put(draft.numbers, place, number + change);
            if (isNumber(number + change) && lateClauses(draft, n) == 0) {
                return change;
            }
        }
        return NO_MEND;
    }

    // ---- two grants

    public int both(int first, int second, int course, int year) {
        if (world.grantAt(first) == null || world.grantAt(second) == null) {
            return NONE;
        }
        if (!isCourse(course) || !isYear(year)) {
            return BAD;
        }
        goBoth(first, second, course);
        int byFirst = at(run.holders, year);
        return byFirst != 0 ? byFirst : at(secondRun.holders, year);
    }

    public int clash(int first, int second, int course) {
        if (world.grantAt(first) == null || world.grantAt(second) == null) {
            return NONE;
        }
        if (!isCourse(course)) {
            return BAD;
        }
        goBoth(first, second, course);
        int years = 0;
        for (int year = 0; year < YEARS; year++) {
            if (at(run.holders, year) != 0 && at(secondRun.holders, year) != 0) {
                years++;
            }
        }
        return years;
    }

    public int same(int first, int second) {
        if (world.grantAt(first) == null || world.grantAt(second) == null) {
            return NONE;
        }
        for (int set = 0; set < coursesThereAre(); set++) {
            goBoth(first, second, set);
            for (int year = 0; year < YEARS; year++) {
                if (at(run.holders, year) != at(secondRun.holders, year)) {
                    return set;
                }
            }
        }
        return NOT;
    }

    // ---- acts, the image

    public int act(int grant, int clause, int act, int x) {
        world.ran = 0;
        Grant words = world.grantAt(grant);
        if (words == null || !words.hasClause(clause) || act < 0 || act > 2) {
            return 0;
        }
        interest.be(words.kindOf(clause), grant, clause);
        if (act == 0) {
            return interest.doHas(world, x);
        }
        return act == 1 ? interest.doWaits(world, x) : interest.doEnds(world, x);
    }

    public int trace(int i) {
        return i < 0 || i >= world.ran || i >= TRACE ? NONE : at(world.trace, i);
    }

    public int as(int grant, int clause, int k) {
        Grant words = world.grantAt(grant);
        if (words == null || !words.hasClause(clause) || k < INTEREST || k > LATER) {
            return NONE;
        }
        int kind = words.kindOf(clause);
        return isUnder(kind, k) ? kind : ANOTHER_KIND;
    }

    public int image() {
        kept.become(world);
        isKept = true;
        return world.persons;
    }

    public int undo() {
        if (!isKept) {
            return STATE;
        }
        world.become(kept);
        forgetCourses();
        return world.persons;
    }

    public int count(int what) {
        switch (what) {
            case 0: return world.persons;
            case 1: return world.maybes;
            case 2: return world.grants;
            case 3: return world.rowSize;
            case 4: return world.tapeSize;
            case 5: return world.ran;
            default: return NONE;
        }
    }

    // ---- what the calls ask

    private static boolean isOneOfPeople(int person) {
        return person >= 0 && person < PEOPLE;
    }

    private static boolean isYear(int year) {
        return year >= 0 && year <= LAST_YEAR;
    }

    private static boolean isNumber(int number) {
        return number >= 0 && number <= GREATEST_NUMBER;
    }

    private boolean isCourse(int course) {
        return course >= 0 && course < coursesThereAre();
    }

    private int coursesThereAre() {
        return 1 << world.maybes;
    }

    private static boolean isUnder(int kind, int k) {
        int one = kind;
        for (int step = 0; step < ABOVE.length && one >= 0 && one != k; step++) {
            one = at(ABOVE, one);
        }
        return one == k;
    }

    /** A set of COURSES is a long: the one of the fewest MAYBES in it, of several the least. */
    private static int fewest(long sets) {
        int best = NOT;
        for (int set = 0; set < COURSES; set++) {
            boolean isIn = (sets >> set & 1) == 1;
            if (isIn && (best == NOT || Integer.bitCount(set) < Integer.bitCount(best))) {
                best = set;
            }
        }
        return best;
    }

    // ---- courses and what goes in them

    private void forgetCourses() {
        for (int set = 0; set < courses.length; set++) {
            courses[set].isLearnt = false;
        }
    }

    private Course courseOf(int set) {
        Course course = courses[set & COURSES - 1];
        if (!course.isLearnt) {
            course.learn(world, set);
        }
        return course;
    }

    private void goBoth(int first, int second, int course) {
        Grant one = world.grantAt(first);
        Grant other = world.grantAt(second);
        if (one != null && other != null) {
            run.go(one, courseOf(course));
            secondRun.go(other, courseOf(course));
        }
    }

    /** The CLAUSES, as bits, that are LATE by n; a COURSE without time left behind that is not gone. */
    private int lateClauses(Grant words, int n) {
        int late = 0;
        for (int set = 0; set < coursesThereAre(); set++) {
            Course course = courseOf(set);
            int bound = course.lastDeath + n;
            if (bound < LAST_YEAR) {
                run.go(words, course);
                late |= run.begunBehind(bound);
            }
        }
        return late;
    }

    private long coursesOfLate(Grant words, int clause, int n) {
        long late = 0;
        for (int set = 0; set < coursesThereAre(); set++) {
            Course course = courseOf(set);
            int bound = course.lastDeath + n;
            if (bound < LAST_YEAR) {
                run.go(words, course);
                late |= at(run.began, clause) > bound ? 1L << set : 0;
            }
        }
        return late;
    }

    /** Whether all COURSES that are like this one in the known MAYBES are late, or none is. */
    private boolean isSettled(long late, int course, int known) {
        for (int set = 0; set < coursesThereAre(); set++) {
            if (((set ^ course) & known) == 0 && (late >> set & 1) != (late >> course & 1)) {
                return false;
            }
        }
        return true;
    }

    // ---- rows of numbers: a place that a row has not reads as 0 and keeps nothing, so that the
    // machine never throws

    private static int at(int[] row, int i) {
        return i >= 0 && i < row.length ? row[i] : 0;
    }

    private static void put(int[] row, int i, int number) {
        if (i >= 0 && i < row.length) {
            row[i] = number;
        }
    }

    private static void copy(int[] from, int[] to) {
        System.arraycopy(from, 0, to, 0, Math.min(from.length, to.length));
    }

    private static void fill(int[] row, int number) {
        for (int i = 0; i < row.length; i++) {
            row[i] = number;
        }
    }

    /** All that there is but THE IMAGE; THE IMAGE is one more of these. */
    private static final class World {
        private int persons;
        private final int[] age = new int[PERSONS];
        private final int[] parent = new int[PERSONS];
        private int maybes;
        private final int[] kind = new int[MAYBES];
        private final int[] who = new int[MAYBES];
        private final int[] year = new int[MAYBES];
        private int grants;
        private final Grant[] given = new Grant[GRANTS];
        private int tapeSize;
        private final int[] tape = new int[TAPE];
        private int rowSize;
        private final int[] row = new int[YEARS];
        private int ran;
        private final int[] trace = new int[TRACE];

        private World() {
            for (int number = 0; number < given.length; number++) {
                given[number] = new Grant();
            }
        }

        private void become(World other) {
            persons = other.persons;
            copy(other.age, age);
            copy(other.parent, parent);
            maybes = other.maybes;
            copy(other.kind, kind);
            copy(other.who, who);
            copy(other.year, year);
            grants = other.grants;
            for (int number = 0; number < GRANTS; number++) {
                given[number].repeat(other.given[number]);
            }
            tapeSize = other.tapeSize;
            copy(other.tape, tape);
            rowSize = other.rowSize;
            copy(other.row, row);
            ran = other.ran;
            copy(other.trace, trace);
        }

        private boolean isPerson(int number) {
            return number >= 0 && number < persons;
        }

        private boolean isChild(int number) {
            return number >= PERSONS && number - PERSONS < maybes && at(kind, number - PERSONS) == BIRTH;
        }

        private int maybesUpTo(int last) {
            int those = 0;
            for (int m = 0; m < maybes; m++) {
                if (at(year, m) <= last) {
                    those |= 1 << m;
                }
            }
            return those;
        }

        /** The GRANT of that number, or null if there is none such. */
        private Grant grantAt(int number) {
            return number >= 0 && number < grants && number < given.length ? given[number] : null;
        }

        private int keep(Grant grant) {
            if (grants >= given.length) {
                return FULL;
            }
            given[grants].repeat(grant);
            grants++;
            return grants - 1;
        }

        private void ranBody(int body) {
            if (ran >= 0 && ran < trace.length) {
                trace[ran] = body;
            }
            ran++;
        }
    }

    /** The words of a GRANT: of each CLAUSE four parts, each a letter (0: no such part) and a number. */
    private static final class Grant {
        private int clauses;
        private final int[] letters = new int[CLAUSES * PARTS];
        private final int[] numbers = new int[CLAUSES * PARTS];

        private void clear() {
            clauses = 0;
            fill(letters, 0);
            fill(numbers, 0);
        }

        private void repeat(Grant other) {
            clauses = other.clauses;
            copy(other.letters, letters);
            copy(other.numbers, numbers);
        }

        private void repeatWithout(Grant other, int struck) {
            clear();
            for (int clause = 0; clause < other.clauses; clause++) {
                if ((struck >> clause & 1) == 0) {
                    for (int part = 0; part < PARTS; part++) {
                        say(clauses, part, other.letter(clause, part), other.number(clause, part));
                    }
                    clauses++;
                }
            }
        }

        private void say(int clause, int part, int letter, int number) {
            put(letters, clause * PARTS + part, letter);
            put(numbers, clause * PARTS + part, number);
        }

        private int letter(int clause, int part) {
            int place = clause * PARTS + part;
            return place >= 0 && place < letters.length ? letters[place] : 0;
        }

        private int number(int clause, int part) {
            int place = clause * PARTS + part;
            return place >= 0 && place < numbers.length ? numbers[place] : 0;
        }

        private boolean hasClause(int clause) {
            return clause >= 0 && clause < clauses;
        }

        private boolean isShift(int clause) {
            return letter(clause, SHIFT_PART) != 0;
        }

        /** The digits of WHO and of DEEDS are no NUMBERS. */
        private boolean isNumberAt(int place) {
            int letter = at(letters, place);
            return letter == 'a' || letter == 'y';
        }

        private int numbersIn() {
            int howMany = 0;
            for (int place = 0; place < clauses * PARTS; place++) {
                if (isNumberAt(place)) {
                    howMany++;
                }
            }
            return howMany;
        }

        /** Where NUMBER i stands, or -1. */
        private int placeOfNumber(int i) {
            int ahead = 0;
            for (int place = 0; place < clauses * PARTS; place++) {
                if (isNumberAt(place)) {
                    if (ahead == i) {
                        return place;
                    }
                    ahead++;
                }
            }
            return -1;
        }

        private int kindOf(int clause) {
            boolean hasIf = letter(clause, IF_PART) != 0;
            if (clause == 0) {
                return NOW;
            }
            if (isShift(clause)) {
                return hasIf ? LATER : SHIFT;
            }
            if (hasIf) {
                return IF;
            }
            return letter(clause, WHO_PART) == 'c' ? CLASS : BEHIND;
        }
    }

    /** Reads THE TAPE: each step leaves its place at the first byte with which it can't go on. */
    private static final class Reader {
        private final Grant grant = new Grant();
        private final int[] text = new int[TAPE];
        private int size;
        private int place;

        /** The FAULT, or -1 if the whole text is a GRANT. */
        private int read(int[] tape, int tapeSize) {
            copy(tape, text);
            size = tapeSize;
            place = 0;
            grant.clear();
            for (int clause = 0; clause < CLAUSES; clause++) {
                if (!readClause(clause)) {
                    return place;
                }
                grant.clauses = clause + 1;
                if (place == size) {
                    return -1;
                }
                if (next() != ';' || clause == CLAUSES - 1) {
                    return place;
                }
                place++;
            }
            return place;
        }

        private boolean readClause(int clause) {
            if (clause > 0 && take('>') && !(readCond(clause, SHIFT_PART) && take(':'))) {
                return false;
            }
            if (!readWho(clause) || !take(' ') || !readTerm(clause)) {
                return false;
            }
            return !take(' ') || take('i') && take('f') && take(' ') && readCond(clause, IF_PART);
        }

        private boolean readWho(int clause) {
            int letter = next();
            if (letter != 'p' && letter != 'f' && letter != 'c') {
                return false;
            }
            place++;
            return readPart(clause, WHO_PART, letter, readDigit(PERSONS - 1));
        }

        private boolean readTerm(int clause) {
            int letter = next();
            if (letter == 'l') {
                return readWord("life") && readPart(clause, TERM_PART, letter, 0);
            }
            if (letter == 'e') {
                return readWord("ever") && readPart(clause, TERM_PART, letter, 0);
            }
            return readPart(clause, TERM_PART, 'y', readNumber()) && take('y');
        }

        private boolean readCond(int clause, int part) {
            int letter = next();
            if (letter != 'a' && letter != 'w' && letter != 'd') {
                return false;
            }
            place++;
            if (letter == 'w') {
                return readPart(clause, part, letter, 0);
            }
            return readPart(clause, part, letter, letter == 'a' ? readNumber() : readDigit(DEEDS - 1));
        }

        private boolean readPart(int clause, int part, int letter, int number) {
            grant.say(clause, part, letter, number);
            return number >= 0;
        }

        private boolean readWord(String word) {
            for (int i = 0; i < word.length(); i++) {
                if (!take(word.charAt(i))) {
                    return false;
                }
            }
            return true;
        }

        /** One or two digits, no 0 ahead of another; -1 if there is none. */
        private int readNumber() {
            int first = readDigit(9);
            if (first <= 0) {
                return first;
            }
            int second = readDigit(9);
            return second < 0 ? first : first * 10 + second;
        }

        private int readDigit(int greatest) {
            int digit = next() - '0';
            if (digit < 0 || digit > greatest) {
                return -1;
            }
            place++;
            return digit;
        }

        private boolean take(int sign) {
            if (next() != sign) {
                return false;
            }
            place++;
            return true;
        }

        private int next() {
            return place >= 0 && place < size && place < text.length ? text[place] : -1;
        }
    }

    /** A COURSE: who is ALIVE, who has wed and which DEEDS were done by each YEAR, as bits. */
    private static final class Course {
        private boolean isLearnt;
        private final int[] alive = new int[YEARS];
        private final int[] wed = new int[YEARS];
        private final int[] deeds = new int[YEARS];
        // YEARS below 0 for those there at first, so that AGE and birth's order are one reckoning.
        private final int[] birth = new int[PEOPLE];
        private final int[] death = new int[PEOPLE];
        // All that a PERSON ever has in this COURSE, as bits.
        private final int[] children = new int[PEOPLE];
        private int lastToDie;
        private int lastDeath;
        private int aliveNow;
        private int wedNow;
        private int deedsNow;

        private void learn(World world, int set) {
            start(world);
            for (int year = 0; year < YEARS; year++) {
                for (int m = 0; m < world.maybes; m++) {
                    if ((set >> m & 1) == 1 && at(world.year, m) == year) {
                        come(at(world.kind, m), at(world.who, m), m, year);
                    }
                }
                alive[year] = aliveNow;
                wed[year] = wedNow;
                deeds[year] = deedsNow;
            }
            findLast(world.persons);
            isLearnt = true;
        }

        private void start(World world) {
            aliveNow = (1 << world.persons) - 1;
            wedNow = 0;
            deedsNow = 0;
            fill(birth, NEVER);
            fill(death, NEVER);
            fill(children, 0);
            for (int person = 0; person < world.persons; person++) {
                put(birth, person, -at(world.age, person));
                addChild(at(world.parent, person), person);
            }
        }

        private void addChild(int parent, int child) {
            put(children, parent, at(children, parent) | 1 << child);
        }

        private void come(int kind, int who, int maybe, int year) {
            if (kind == DEED) {
                deedsNow |= 1 << who;
                return;
            }
            if ((aliveNow >> who & 1) == 0) {
                return;
            }
            if (kind == BIRTH) {
                aliveNow |= 1 << PERSONS + maybe;
                put(birth, PERSONS + maybe, year);
                addChild(who, PERSONS + maybe);
            } else if (kind == DEATH) {
                aliveNow &= ~(1 << who);
                put(death, who, year);
            } else {
                wedNow |= 1 << who;
            }
        }

        private void findLast(int persons) {
            lastToDie = NOT;
            lastDeath = NEVER;
            for (int person = 0; person < persons; person++) {
                int year = at(death, person);
                if (year == NEVER) {
                    lastToDie = NOT;
                    lastDeath = NEVER;
                    return;
                }
                if (lastToDie == NOT || year > lastDeath) {
                    lastToDie = person;
                    lastDeath = year;
                }
            }
        }

        /** Of these, all ALIVE, those for whom the COND HOLDS; without one (letter 0) all. */
        private int meeting(int those, int letter, int number, int year) {
            if (letter == 'w') {
                return those & at(wed, year);
            }
            if (letter == 'd') {
                return isDone(number, year) ? those : 0;
            }
            return letter == 'a' ? thoseBornBy(those, year - number) : those;
        }

        private boolean isDone(int deed, int year) {
            return year >= 0 && year < deeds.length && (deeds[year] >> deed & 1) == 1;
        }

        private int thoseBornBy(int those, int year) {
            int old = 0;
            for (int person = 0; person < PEOPLE; person++) {
                if (birth[person] <= year) {
                    old |= 1 << person;
                }
            }
            return those & old;
        }

        /** Of these the one born first, as a bit. */
        private int firstBorn(int those) {
            int first = -1;
            for (int person = 0; person < PEOPLE; person++) {
                boolean isIn = (those >> person & 1) == 1;
                if (isIn && (first < 0 || birth[person] < at(birth, first))) {
                    first = person;
                }
            }
            return first < 0 ? 0 : 1 << first;
        }
    }

    /** How a GRANT goes in a COURSE. */
    private static final class Run {
        private final int[] holders = new int[YEARS];
        private final int[] clauses = new int[YEARS];
        private final int[] began = new int[CLAUSES];
        // The CLAUSE that RUNS, or ran last; those that have the field by it.
        private int clause;
        private boolean isRunning;
        private boolean hasBegun;
        private int having;

        private void go(Grant grant, Course course) {
            fill(began, NOT);
            turnTo(0);
            for (int year = 0; year < YEARS; year++) {
                shift(grant, course, year);
                settle(grant, course, year);
                holders[year] = having;
                clauses[year] = having == 0 ? NOT : clause;
            }
        }

        private int begunBehind(int bound) {
            int those = 0;
            for (int one = 0; one < began.length; one++) {
                if (began[one] > bound) {
                    those |= 1 << one;
                }
            }
            return those;
        }

        private void turnTo(int next) {
            clause = next;
            isRunning = true;
            hasBegun = false;
            having = 0;
        }

        /** For nobody a COND of a DEED alone HOLDS. */
        private void shift(Grant grant, Course course, int year) {
            for (int later = clause + 1; later < grant.clauses; later++) {
                boolean isOfDeed = grant.letter(later, SHIFT_PART) == 'd';
                if (isOfDeed && course.isDone(grant.number(later, SHIFT_PART), year)) {
                    turnTo(later);
                    return;
                }
            }
        }

        private void settle(Grant grant, Course course, int year) {
            for (int step = 0; step < CLAUSES && isRunning; step++) {
                if (!hasBegun) {
                    begin(grant, course, year);
                }
                if (hasBegun && !hasEnded(grant, course, year)) {
                    return;
                }
                if (!hasBegun && !hasFailed(grant, course, year)) {
                    return;
                }
                turnToNext(grant);
            }
        }

        private void begin(Grant grant, Course course, int year) {
            int those = named(grant, course) & at(course.alive, year);
            int takers = course.meeting(those, grant.letter(clause, IF_PART), grant.number(clause, IF_PART), year);
            having = grant.letter(clause, WHO_PART) == 'f' ? course.firstBorn(takers) : takers;
            if (having != 0) {
                hasBegun = true;
                put(began, clause, year);
            }
        }

        private boolean hasEnded(Grant grant, Course course, int year) {
            int term = grant.letter(clause, TERM_PART);
            if (term == 'e') {
                return false;
            }
            having &= at(course.alive, year);
            return having == 0 || term == 'y' && year >= at(began, clause) + grant.number(clause, TERM_PART);
        }

        private boolean hasFailed(Grant grant, Course course, int year) {
            int those = named(grant, course) | 1 << grant.number(clause, WHO_PART);
            return (those & at(course.alive, year)) == 0;
        }

        /** Those of WHO, as bits: the PERSON, or all children that it may ever have. */
        private int named(Grant grant, Course course) {
            int person = grant.number(clause, WHO_PART);
            return grant.letter(clause, WHO_PART) == 'p' ? 1 << person : at(course.children, person);
        }

        private void turnToNext(Grant grant) {
            having = 0;
            isRunning = false;
            for (int next = clause + 1; next < grant.clauses; next++) {
                if (!grant.isShift(next)) {
                    turnTo(next);
                    return;
                }
            }
        }
    }

    /** A CLAUSE as it acts; a body that calls super goes on in the same method, behind its number. */
    private static final class Interest {
        private int kind;
        private int grant;
        private int clause;

        private void be(int itsKind, int itsGrant, int itsClause) {
            kind = itsKind;
            grant = itsGrant;
            clause = itsClause;
        }

        private int doHas(World world, int x) {
            if (kind == NOW) {
                world.ranBody(11);
                world.ranBody(1);
                return x * 3 + clause;
            }
            if (kind == CLASS) {
                world.ranBody(51);
                world.ranBody(1);
                return x + clause ^ clause;
            }
            world.ranBody(1);
            return x + clause;
        }

        private int doWaits(World world, int x) {
            if (isUnder(kind, BEHIND)) {
                world.ranBody(21);
                return -waitsOfInterest(world, x);
            }
            if (kind == LATER) {
                world.ranBody(61);
                return waitsOfInterest(world, x) + grant;
            }
            return waitsOfInterest(world, x);
        }

        private int waitsOfInterest(World world, int x) {
            world.ranBody(2);
            return doHas(world, x) - grant;
        }

        private int doEnds(World world, int x) {
            if (isUnder(kind, SHIFT)) {
                world.ranBody(31);
                return endsOfInterest(world, x) ^ 5;
            }
            if (kind == IF) {
                world.ranBody(41);
                int above = endsOfInterest(world, x - 1);
                return above + doHas(world, 2);
            }
            return endsOfInterest(world, x);
        }

        private int endsOfInterest(World world, int x) {
            world.ranBody(3);
            return doWaits(world, x) * 2;
        }
    }
}
