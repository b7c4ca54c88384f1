import java.util.ArrayList;
import java.util.Arrays;
import java.util.List;
import java.util.Set;
import java.util.TreeSet;
import java.util.regex.Matcher;
import java.util.regex.Pattern;

/**
 * The document once more, word by word and without regard to room or speed: GRANTS stay texts,
 * COURSES are asked anew for every answer. ModelTest holds LifeGrants against it.
 */
final class Model {
    static final int NONE = -1, BAD = -2, STATE = -3, FULL = -4;

    private static final String NUMBER = "(?:0|[1-9][0-9]?)";
    private static final String COND = "(?:a" + NUMBER + "|w|d[0-3])";
    private static final String SHIFT = "(?:>(" + COND + "):)";
    private static final String REST = "([pfc])([0-7]) (life|ever|" + NUMBER + "y)(?: if (" + COND + "))?";
    private static final Pattern CLAUSE = Pattern.compile(SHIFT + "?" + REST);
    private static final Pattern GRANT =
        Pattern.compile(REST + "(?:;" + SHIFT + "?" + REST + "){0,5}", Pattern.DOTALL);
    private static final Pattern NUMBERS = Pattern.compile("a(" + NUMBER + ")|(" + NUMBER + ")y");

    private record Person(int age, int parent) { }

    private record Maybe(int kind, int who, int year) { }

    private static final class All {
        List<Person> persons = new ArrayList<>();
        List<Maybe> maybes = new ArrayList<>();
        List<String> grants = new ArrayList<>();
        List<Integer> row = new ArrayList<>();
        String tape = "";
        List<Integer> trace = new ArrayList<>();

        All copy() {
            All other = new All();
            other.persons.addAll(persons);
            other.maybes.addAll(maybes);
            other.grants.addAll(grants);
            other.row.addAll(row);
            other.tape = tape;
            other.trace.addAll(trace);
            return other;
        }
    }

    private All all = new All();
    private All image;

    // ---- persons, what may come

    int person(int age, int parent) {
        if (parent != -1 && (parent < 0 || parent >= all.persons.size())) return NONE;
        if (age < 0 || age > 90) return BAD;
        if (parent != -1 && age >= all.persons.get(parent).age()) return STATE;
        if (all.persons.size() == 8) return FULL;
        all.persons.add(new Person(age, parent));
        return all.persons.size() - 1;
    }

    int maybe(int kind, int who, int year) {
        if (kind < 0 || kind > 3) return NONE;
        if (kind == 3) {
            if (who < 0 || who > 3) return NONE;
        } else {
            boolean isThere = who >= 0 && who < all.persons.size();
            boolean isChild = who >= 8 && who < 8 + all.maybes.size() && all.maybes.get(who - 8).kind() == 0;
            if (!isThere && !isChild) return NONE;
        }
        if (year < 1 || year > 40) return BAD;
        if (all.maybes.size() == 6) return FULL;
        all.maybes.add(new Maybe(kind, who, year));
        return all.maybes.size() - 1;
    }

    private boolean isAhead(int m, int other) {
        int a = all.maybes.get(m).year();
        int b = all.maybes.get(other).year();
        return a < b || a == b && m < other;
    }

    /** Whether a MAYBE comes and does something. */
    private boolean does(int m, int course) {
        if ((course >> m & 1) == 0) return false;
        Maybe maybe = all.maybes.get(m);
        if (maybe.kind() == 3) return true;
        int who = maybe.who();
        if (who >= 8 && !(isAhead(who - 8, m) && does(who - 8, course))) return false;
        for (int d = 0; d < all.maybes.size(); d++) {
            Maybe other = all.maybes.get(d);
            if (other.kind() == 1 && other.who() == who && isAhead(d, m) && does(d, course)) return false;
        }
        return true;
    }

    /** The least YEAR of a MAYBE of that KIND and PERSON (or DEED) that does something, or 1000. */
    private int first(int kind, int who, int course) {
        int best = 1000;
        for (int m = 0; m < all.maybes.size(); m++) {
            Maybe maybe = all.maybes.get(m);
            if (maybe.kind() == kind && maybe.who() == who && does(m, course)) best = Math.min(best, maybe.year());
        }
        return best;
    }

    /** The YEAR of birth (below 0 of those there at first), or 1000. */
    private int birth(int p, int course) {
        if (p < 8) return p < all.persons.size() ? -all.persons.get(p).age() : 1000;
        boolean isBorn = p - 8 < all.maybes.size() && all.maybes.get(p - 8).kind() == 0 && does(p - 8, course);
        return isBorn ? all.maybes.get(p - 8).year() : 1000;
    }

    private boolean isAlive(int p, int course, int year) {
        return birth(p, course) <= year && year < first(1, p, course);
    }

    private boolean hasWed(int p, int course, int year) {
        return first(2, p, course) <= year;
    }

    private boolean badCourse(int course) {
        return course < 0 || course >= 1 << all.maybes.size();
    }

    private static boolean badYear(int year) {
        return year < 0 || year > 40;
    }

    int life(int person, int course, int year, int what) {
        if (person < 0 || person > 13 || what < 0 || what > 2) return NONE;
        if (badCourse(course) || badYear(year)) return BAD;
        if (what == 0) return isAlive(person, course, year) ? 1 : 0;
        if (what == 1) return birth(person, course) <= year ? year - birth(person, course) : -5;
        return hasWed(person, course, year) ? 1 : 0;
    }

    // ---- grants

    int feed(long w, int n) {
        if (n < 1 || n > 8) return BAD;
        if (all.tape.length() + n > 80) return FULL;
        for (int i = n - 1; i >= 0; i--) all.tape += (char) (w >>> 8 * i & 255);
        return all.tape.length();
    }

    int grant() {
        if (all.grants.size() == 6) return FULL;
        String text = all.tape;
        all.tape = "";
        if (GRANT.matcher(text).matches()) {
            all.grants.add(text);
            return all.grants.size() - 1;
        }
        for (int size = 1; size <= text.length(); size++) {
            Matcher matcher = GRANT.matcher(text.substring(0, size));
            if (!matcher.matches() && !matcher.hitEnd()) return -10 - (size - 1);
        }
        return -10 - text.length();
    }

    private boolean noGrant(int grant) {
        return grant < 0 || grant >= all.grants.size();
    }

    private boolean noClause(int grant, int clause) {
        return noGrant(grant) || clause < 0 || clause >= all.grants.get(grant).split(";").length;
    }

    private static List<Integer> numbers(String text) {
        List<Integer> numbers = new ArrayList<>();
        Matcher matcher = NUMBERS.matcher(text);
        while (matcher.find()) numbers.add(Integer.valueOf(matcher.group(matcher.group(1) != null ? 1 : 2)));
        return numbers;
    }

    private static String withNumber(String text, int i, int number) {
        Matcher matcher = NUMBERS.matcher(text);
        for (int k = 0; matcher.find(); k++) {
            int group = matcher.group(1) != null ? 1 : 2;
            if (k == i) return text.substring(0, matcher.start(group)) + number + text.substring(matcher.end(group));
        }
        throw new IllegalStateException();
    }

    int told(int grant, int i) {
        if (noGrant(grant)) return NONE;
        String text = all.grants.get(grant);
        if (i == -1) return text.split(";").length;
        List<Integer> numbers = numbers(text);
        if (i == -2) return numbers.size();
        return i < 0 || i >= numbers.size() ? NONE : numbers.get(i);
    }

    // ---- how one runs

    private record Clause(String shift, char who, int of, String term, String cond) {
        static Clause of(String text) {
            Matcher m = CLAUSE.matcher(text);
            if (!m.matches()) throw new IllegalStateException(text);
            return new Clause(m.group(1), m.group(2).charAt(0), Integer.parseInt(m.group(3)), m.group(4), m.group(5));
        }
    }

    private boolean holds(String cond, int person, int course, int year) {
        if (cond.charAt(0) == 'd') return first(3, cond.charAt(1) - '0', course) <= year;
        if (person < 0) return false;
        if (cond.equals("w")) return hasWed(person, course, year);
        return isAlive(person, course, year) && year - birth(person, course) >= Integer.parseInt(cond.substring(1));
    }

    private List<Integer> children(int parent, int course) {
        List<Integer> children = new ArrayList<>();
        for (int p = 0; p < all.persons.size(); p++) if (all.persons.get(p).parent() == parent) children.add(p);
        for (int m = 0; m < all.maybes.size(); m++) {
            Maybe maybe = all.maybes.get(m);
            if (maybe.kind() == 0 && maybe.who() == parent && does(m, course)) children.add(8 + m);
        }
        children.sort((a, b) -> {
            boolean aAtFirst = a < 8;
            boolean bAtFirst = b < 8;
            if (aAtFirst != bAtFirst) return aAtFirst ? -1 : 1;
            if (aAtFirst && !all.persons.get(a).equals(all.persons.get(b))) {
                return all.persons.get(b).age() - all.persons.get(a).age();
            }
            if (!aAtFirst && birth(a, course) != birth(b, course)) return birth(a, course) - birth(b, course);
            return a - b;
        });
        return children;
    }

    private List<Integer> takers(Clause clause, int course, int year) {
        List<Integer> takers = new ArrayList<>(clause.who() == 'p' ? List.of(clause.of()) : children(clause.of(), course));
        takers.removeIf(p -> !isAlive(p, course, year));
        if (clause.cond() != null) takers.removeIf(p -> !holds(clause.cond(), p, course, year));
        return clause.who() == 'f' && takers.size() > 1 ? takers.subList(0, 1) : takers;
    }

    private boolean fails(Clause clause, int course, int year) {
        if (isAlive(clause.of(), course, year)) return false;
        return clause.who() == 'p' || children(clause.of(), course).stream().noneMatch(p -> isAlive(p, course, year));
    }

    private final class Way {
        final int[] has = new int[41];
        final int[] by = new int[41];
        final int[] began = new int[6];

        Way(String text, int course) {
            List<Clause> clauses = new ArrayList<>();
            for (String clause : text.split(";")) clauses.add(Clause.of(clause));
            Arrays.fill(began, -5);
            int at = 0;
            boolean runs = true;
            Set<Integer> having = new TreeSet<>();
            for (int year = 0; year <= 40; year++) {
                final int now = year;
                for (int j = at + 1; j < clauses.size(); j++) {
                    if (clauses.get(j).shift() != null && holds(clauses.get(j).shift(), -1, course, year)) {
                        at = j;
                        runs = true;
                        having.clear();
                        break;
                    }
                }
                while (runs) {
                    Clause clause = clauses.get(at);
                    boolean over;
                    if (began[at] == -5) {
                        having.addAll(takers(clause, course, year));
                        if (!having.isEmpty()) began[at] = year;
                    }
                    if (began[at] == -5) {
                        over = fails(clause, course, year);
                    } else if (clause.term().equals("ever")) {
                        over = false;
                    } else {
                        having.removeIf(p -> !isAlive(p, course, now));
                        over = having.isEmpty();
                        if (clause.term().endsWith("y")) {
                            String years = clause.term().substring(0, clause.term().length() - 1);
                            over |= year == began[at] + Integer.parseInt(years);
                        }
                    }
                    if (!over) break;
                    having.clear();
                    runs = false;
                    for (int j = at + 1; j < clauses.size() && !runs; j++) {
                        if (clauses.get(j).shift() == null) {
                            at = j;
                            runs = true;
                        }
                    }
                }
                for (int p : having) has[year] |= 1 << p;
                by[year] = having.isEmpty() ? -5 : at;
            }
        }
    }

    private Way way(int grant, int course) {
        return new Way(all.grants.get(grant), course);
    }

    private int courses() {
        return 1 << all.maybes.size();
    }

    // ---- courses

    int has(int grant, int course, int year, int what) {
        if (noGrant(grant) || what < 0 || what > 1) return NONE;
        if (badCourse(course) || badYear(year)) return BAD;
        return what == 0 ? way(grant, course).has[year] : way(grant, course).by[year];
    }

    int began(int grant, int clause, int course) {
        if (noClause(grant, clause)) return NONE;
        if (badCourse(course)) return BAD;
        return way(grant, course).began[clause];
    }

    private static int shown(List<Integer> courses) {
        return courses.stream().min((a, b) -> {
            int d = Integer.bitCount(a) - Integer.bitCount(b);
            return d != 0 ? d : a - b;
        }).orElse(-5);
    }

    int sure(int grant, int clause, int what) {
        if (noClause(grant, clause) || what < 0 || what > 2) return NONE;
        List<Integer> in = new ArrayList<>();
        for (int c = 0; c < courses(); c++) if (way(grant, c).began[clause] != -5) in.add(c);
        if (what == 1) return shown(in);
        if (what == 2) return in.size();
        return in.isEmpty() ? 0 : in.size() == courses() ? 2 : 1;
    }

    int holders(int grant, int what) {
        if (noGrant(grant) || what < 0 || what > 1) return NONE;
        int some = 0;
        int surely = 16383;
        for (int c = 0; c < courses(); c++) {
            int here = Arrays.stream(way(grant, c).has).reduce(0, (a, b) -> a | b);
            some |= here;
            surely &= here;
        }
        return what == 0 ? some : surely;
    }

    int share(int grant, int person, int course, int year) {
        if (noGrant(grant) || person < 0 || person > 13) return NONE;
        if (badCourse(course) || badYear(year)) return BAD;
        int has = way(grant, course).has[year];
        return (has & 1 << person) != 0 ? Integer.bitCount(has) : 0;
    }

    int judged(int grant, int course) {
        if (noGrant(grant)) return NONE;
        if (badCourse(course)) return BAD;
        Way way = way(grant, course);
        for (int y = 0; y < all.row.size(); y++) if (all.row.get(y) != way.has[y]) return y;
        return -5;
    }

    int row(int set) {
        if (set == -1) {
            all.row.clear();
            return 0;
        }
        if (set < 0 || set > 16383) return BAD;
        if (all.row.size() == 41) return FULL;
        all.row.add(set);
        return all.row.size();
    }

    // ---- too late

    int measure(int course) {
        if (badCourse(course)) return BAD;
        int best = -5;
        for (int p = 0; p < all.persons.size(); p++) {
            int died = first(1, p, course);
            if (died == 1000) return -5;
            if (best == -5 || died > first(1, best, course)) best = p;
        }
        return best;
    }

    private boolean isLate(String text, int clause, int n, int course) {
        int last = measure(course);
        if (last < 0) return false;
        int began = new Way(text, course).began[clause];
        return began != -5 && began - first(1, last, course) > n;
    }

    private List<Integer> lateCourses(String text, int clause, int n) {
        List<Integer> in = new ArrayList<>();
        for (int c = 0; c < courses(); c++) if (isLate(text, clause, n, c)) in.add(c);
        return in;
    }

    int late(int grant, int clause, int n, int what) {
        if (noClause(grant, clause) || what < 0 || what > 1) return NONE;
        if (badYear(n)) return BAD;
        List<Integer> in = lateCourses(all.grants.get(grant), clause, n);
        return what == 1 ? shown(in) : in.isEmpty() ? 0 : 1;
    }

    int see(int grant, int clause, int course, int n) {
        if (noClause(grant, clause)) return NONE;
        if (badCourse(course) || badYear(n)) return BAD;
        List<Integer> in = lateCourses(all.grants.get(grant), clause, n);
        for (int t = 0; t <= 40; t++) {
            Set<Boolean> answers = new TreeSet<>();
            for (int c = 0; c < courses(); c++) {
                boolean isLike = true;
                for (int m = 0; m < all.maybes.size(); m++) {
                    if (all.maybes.get(m).year() <= t && (c >> m & 1) != (course >> m & 1)) isLike = false;
                }
                if (isLike) answers.add(in.contains(c));
            }
            if (answers.size() == 1) return t;
        }
        throw new IllegalStateException();
    }

    int strike(int grant, int n) {
        if (noGrant(grant)) return NONE;
        if (badYear(n)) return BAD;
        String text = all.grants.get(grant);
        String[] clauses = text.split(";");
        StringBuilder left = new StringBuilder(clauses[0]);
        for (int c = 1; c < clauses.length; c++) {
            if (lateCourses(text, c, n).isEmpty()) left.append(';').append(clauses[c]);
        }
        if (left.length() == text.length()) return STATE;
        if (all.grants.size() == 6) return FULL;
        all.grants.add(left.toString());
        return all.grants.size() - 1;
    }

    private boolean isFreeOfLate(String text, int n) {
        for (int c = 0; c < text.split(";").length; c++) if (!lateCourses(text, c, n).isEmpty()) return false;
        return true;
    }

    int mend(int grant, int i, int n) {
        if (noGrant(grant) || i < 0 || i >= numbers(all.grants.get(grant)).size()) return NONE;
        if (badYear(n)) return BAD;
        String text = all.grants.get(grant);
        int number = numbers(text).get(i);
        for (int change : new int[] {0, -1, 1, -2, 2, -3, 3, -4, 4, -5, 5}) {
            int other = number + change;
            if (other >= 0 && other <= 99 && isFreeOfLate(withNumber(text, i, other), n)) return change;
        }
        return -100;
    }

    // ---- two grants

    int both(int first, int second, int course, int year) {
        if (noGrant(first) || noGrant(second)) return NONE;
        if (badCourse(course) || badYear(year)) return BAD;
        int by = way(first, course).has[year];
        return by == 0 ? way(second, course).has[year] : by;
    }

    int clash(int first, int second, int course) {
        if (noGrant(first) || noGrant(second)) return NONE;
        if (badCourse(course)) return BAD;
        Way a = way(first, course);
        Way b = way(second, course);
        int years = 0;
        for (int y = 0; y <= 40; y++) if (a.has[y] != 0 && b.has[y] != 0) years++;
        return years;
    }

    int same(int first, int second) {
        if (noGrant(first) || noGrant(second)) return NONE;
        for (int c = 0; c < courses(); c++) {
            if (!Arrays.equals(way(first, c).has, way(second, c).has)) return c;
        }
        return -5;
    }

    // ---- acts, the image

    private static class Interest {
        int g;
        int i;
        List<Integer> trace;

        int has(int x) { trace.add(1); return x + i; }

        int waits(int x) { trace.add(2); return has(x) - g; }

        int ends(int x) { trace.add(3); return waits(x) * 2; }
    }

    private static class Now extends Interest {
        @Override int has(int x) { trace.add(11); return super.has(x * 3); }
    }

    private static class Behind extends Interest {
        @Override int waits(int x) { trace.add(21); return -super.waits(x); }
    }

    private static class Shift extends Interest {
        @Override int ends(int x) { trace.add(31); return super.ends(x) ^ 5; }
    }

    private static class If extends Behind {
        @Override int ends(int x) { trace.add(41); return super.ends(x - 1) + has(2); }
    }

    private static class Class extends Behind {
        @Override int has(int x) { trace.add(51); return super.has(x) ^ i; }
    }

    private static class Later extends Shift {
        @Override int waits(int x) { trace.add(61); return super.waits(x) + g; }
    }

    private Interest interest(int grant, int clause) {
        Clause words = Clause.of(all.grants.get(grant).split(";")[clause]);
        if (clause == 0) return new Now();
        if (words.shift() != null) return words.cond() != null ? new Later() : new Shift();
        if (words.cond() != null) return new If();
        return words.who() == 'c' ? new Class() : new Behind();
    }

    int act(int grant, int clause, int act, int x) {
        all.trace.clear();
        if (noClause(grant, clause) || act < 0 || act > 2) return 0;
        Interest interest = interest(grant, clause);
        interest.g = grant;
        interest.i = clause;
        interest.trace = all.trace;
        return act == 0 ? interest.has(x) : act == 1 ? interest.waits(x) : interest.ends(x);
    }

    int trace(int i) {
        return i < 0 || i >= Math.min(20, all.trace.size()) ? NONE : all.trace.get(i);
    }

    int as(int grant, int clause, int k) {
        if (noClause(grant, clause) || k < 0 || k > 6) return NONE;
        List<java.lang.Class<?>> kinds = List.of(Interest.class, Now.class, Behind.class, Shift.class, If.class,
            Class.class, Later.class);
        Interest interest = interest(grant, clause);
        return kinds.get(k).isInstance(interest) ? kinds.indexOf(interest.getClass()) : -6;
    }

    int image() {
        image = all.copy();
        return all.persons.size();
    }

    int undo() {
        if (image == null) return STATE;
        all = image.copy();
        return all.persons.size();
    }

    int count(int what) {
        switch (what) {
            case 0: return all.persons.size();
            case 1: return all.maybes.size();
            case 2: return all.grants.size();
            case 3: return all.row.size();
            case 4: return all.tape.length();
            case 5: return all.trace.size();
            default: return NONE;
        }
    }
}
