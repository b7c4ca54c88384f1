import java.io.IOException;
import java.util.ArrayList;
import java.util.List;

/**
 * Each refused call: with one thing wrong and with several, the first one told; and that it changes
 * nothing: behind it all that can be asked answers as on an object that was not so called.
 */
public final class RefusalsTest extends Edges {
    private static final String ORDER = "REFUSALS, of several the first one told: NONE there is no such PERSON, MAYBE, GRANT, CLAUSE, KIND, what, i; BAD a number is not as told (a COURSE with bits of none such, YEARS not 0 .. 40); STATE as told; FULL.";
    private static final String NOTHING = "They change nothing.";
    private static final int BEHIND_A_TURN = 90;

    /** What an argument may be from .. to, and what it is answered with beyond. */
    private record Range(int from, int to, int refusal) {
        List<String> words() {
            List<String> words = new ArrayList<>(List.of(from + "", to + "", (from - 1) + "", (to + 1) + "", "MIN", "MAX"));
            if (from == to) {
                words.remove(0);
            }
            return words;
        }

        boolean isIn(String word) {
            return !word.equals("MIN") && !word.equals("MAX") && Integer.parseInt(word) >= from && Integer.parseInt(word) <= to;
        }
    }

    public static void main(String[] args) throws IOException {
        begin("RefusalsTest");
        Range grant = none(0, 1);
        Range course = bad(0, 15);
        Range year = bad(0, 40);
        asks("life", none(0, 13), course, year, none(0, 2));
        asks("told", grant, none(-2, 1));
        asks("has", grant, course, year, none(0, 1));
        asks("began", grant, none(0, 1), course);
        asks("sure", grant, none(0, 1), none(0, 2));
        asks("holders", grant, none(0, 1));
        asks("share", grant, none(0, 13), course, year);
        asks("judged", grant, course);
        asks("late", grant, none(0, 1), year, none(0, 1));
        asks("measure", course);
        asks("see", grant, none(0, 1), course, year);
        asks("mend", grant, none(0, 1), year);
        asks("both", grant, grant, course, year);
        asks("clash", grant, grant, course);
        asks("same", grant, grant);
        asks("as", grant, none(0, 1), none(0, 6));
        asks("trace", none(0, 2));
        asks("count", none(0, 5));
        for (boolean isFull : new boolean[] {false, true}) {
            persons(isFull);
            maybes(isFull);
            feeds(isFull);
            rows(isFull);
            strikes(isFull);
        }
        noImage();
        checks.end();
    }

    private static Range none(int from, int to) {
        return new Range(from, to, NONE);
    }

    private static Range bad(int from, int to) {
        return new Range(from, to, BAD);
    }

    /** Something of all, and an IMAGE that is another. */
    private static Asked some() {
        Asked x = asked("person(60, -1)", "person(59, -1)", "maybe(0, 0, 4)", "maybe(1, 0, 9)", "image()", "person(30, 1)");
        x.does("maybe(1, 1, 12)", "maybe(1, 2, 12)").grant("p0 9y;f0 life if a20", 0).grant("c0 life;>a9:p0 12y", 1).does("row(1)", "row(1)");
        return x.feed("p1 ").does("act(0, 0, 1, 5)");
    }

    /** All that there is room for. */
    private static Asked all() {
        Asked x = asked();
        for (int p = 0; p < 8; p++) {
            x.does("person(" + (60 - p) + ", " + (p - 1) + ")");
        }
        x.does("image()", "maybe(1, 0, 3)", "maybe(1, 1, 4)", "maybe(0, 1, 2)", "maybe(2, 10, 20)", "maybe(3, 2, 9)", "maybe(0, 10, 30)");
        for (int g = 0; g < 6; g++) {
            x.grant("p" + g + " 9y if a3;f0 life if a20", g);
        }
        for (int i = 0; i < 41; i++) {
            x.does("row(" + (i < 4 ? 1 : 2) + ")");
        }
        for (int i = 0; i < 10; i++) {
            x.feed("p0 life;");
        }
        return x.does("act(5, 0, 0, 5)");
    }

    /** All that can be asked, THE TAPE and THE IMAGE at last. */
    private static String told(Asked x) {
        StringBuilder told = new StringBuilder();
        now(x, told);
        told.append(x.call("feed(0x6c69, 2)")).append(' ').append(x.feed("fe").call("grant()")).append(' ');
        told.append(x.call("told(2, -1)")).append(' ').append(x.call("has(2, 0, 0, 0)")).append(" image: ");
        told.append(x.call("undo()")).append(' ');
        now(x, told);
        return told.toString();
    }

    private static void now(Asked x, StringBuilder told) {
        for (int i = 0; i < 6; i++) {
            told.append(x.call("count(" + i + ")")).append(' ').append(x.call("trace(" + i + ")")).append(' ');
            told.append(x.call("told(" + i + ", -1)")).append(' ').append(x.call("judged(" + i + ", 0)")).append(' ');
        }
        int course = (1 << x.call("count(1)")) - 1;
        for (int p = 0; p < 14; p++) {
            told.append(x.call("life(" + p + ", " + course + ", 40, 1)")).append(' ');
            told.append(x.call("life(" + p + ", " + course + ", 12, 0)")).append(' ');
        }
        for (int g = 0; g < 3; g++) {
            for (int year = 0; year <= 40; year += 8) {
                told.append(x.call("has(" + g + ", " + course + ", " + year + ", 0)")).append(' ');
            }
            told.append(x.call("told(" + g + ", 0)")).append(' ').append(x.call("told(" + g + ", -2)")).append(' ');
            told.append(x.call("sure(" + g + ", 1, 2)")).append(' ').append(x.call("late(" + g + ", 1, 5, 1)")).append(' ');
        }
        told.append(x.call("measure(" + course + ")")).append(' ');
    }

    private static Asked made(boolean isFull) {
        return isFull ? all() : some();
    }

    /** Holds calls that change nothing against what is due, and all behind them against an object without them. */
    private static void changeNothing(boolean isFull, List<String> calls, List<Integer> due) {
        String want = told(made(isFull));
        for (int from = 0; from < calls.size(); from += BEHIND_A_TURN) {
            Asked x = made(isFull);
            says(ORDER);
            int to = Math.min(calls.size(), from + BEHIND_A_TURN);
            for (int i = from; i < to; i++) {
                int answer = x.call(calls.get(i));
                boolean isRefusal = answer < 0 && answer >= FULL;
                checks.due(calls.get(i) + (due.get(i) == 0 ? " is no refusal" : ""), isRefusal ? answer : 0, due.get(i));
            }
            says(NOTHING);
            checks.due("what is told behind " + calls.get(from) + " .. " + calls.get(to - 1), told(x).equals(want) ? 1 : 0, 1);
        }
    }

    /** A call that only asks, with each argument least, greatest and beyond, in all ways together. */
    private static void asks(String name, Range... ranges) {
        List<String> calls = new ArrayList<>(List.of(""));
        List<Integer> due = new ArrayList<>(List.of(0));
        for (Range range : ranges) {
            List<String> longer = new ArrayList<>();
            List<Integer> worse = new ArrayList<>();
            for (int i = 0; i < calls.size(); i++) {
                for (String word : range.words()) {
                    longer.add(calls.get(i) + (calls.get(i).isEmpty() ? "" : ", ") + word);
                    worse.add(range.isIn(word) ? due.get(i) : first(due.get(i), range.refusal()));
                }
            }
            calls = longer;
            due = worse;
        }
        calls.replaceAll(arguments -> name + "(" + arguments + ")");
        changeNothing(false, calls, due);
    }

    /** NONE is told ahead of BAD, this ahead of STATE, this ahead of FULL; 0: none of them. */
    private static int first(int refusal, int other) {
        return refusal == 0 ? other : other == 0 ? refusal : Math.max(refusal, other);
    }

    /** Calls that would come to something are left out: only what is refused changes nothing. */
    private static void refused(boolean isFull, List<String> calls, List<Integer> due) {
        for (int i = calls.size() - 1; i >= 0; i--) {
            if (due.get(i) == 0) {
                checks.due(calls.get(i) + " is taken", made(isFull).call(calls.get(i)) >= 0 ? 1 : 0, 1);
                calls.remove(i);
                due.remove(i);
            }
        }
        changeNothing(isFull, calls, due);
    }

    private static void persons(boolean isFull) {
        List<String> calls = new ArrayList<>();
        List<Integer> due = new ArrayList<>();
        int persons = isFull ? 8 : 3;
        for (String parent : new String[] {"-1", "0", (persons - 1) + "", "-2", persons + "", "8", "13", "MIN", "MAX"}) {
            for (String age : new String[] {"0", "90", "60", "59", "-1", "91", "MIN", "MAX"}) {
                boolean isParent = parent.equals("0") || parent.equals((persons - 1) + "");
                boolean isAge = age.equals("0") || age.equals("90") || age.equals("60") || age.equals("59");
                int none = parent.equals("-1") || isParent ? 0 : NONE;
                int parentsAge = parent.equals("0") ? 60 : isFull ? 53 : 30;
                int state = isParent && isAge && Integer.parseInt(age) >= parentsAge ? STATE : 0;
                calls.add("person(" + age + ", " + parent + ")");
                due.add(first(first(none, isAge ? 0 : BAD), first(state, isFull ? FULL : 0)));
            }
        }
        refused(isFull, calls, due);
    }

    private static void maybes(boolean isFull) {
        List<String> calls = new ArrayList<>();
        List<Integer> due = new ArrayList<>();
        // PERSONS that there are: of the first 8, and the children of the MAYBES of KIND 0.
        List<String> there = isFull ? List.of("0", "7", "10", "13") : List.of("0", "2", "8");
        List<String> notThere = isFull ? List.of("-1", "8", "9", "11", "12", "14", "MIN", "MAX") : List.of("-1", "3", "7", "9", "11", "12", "MIN", "MAX");
        List<String> who = new ArrayList<>(there);
        who.addAll(notThere);
        who.addAll(List.of("3", "4"));
        for (String kind : new String[] {"0", "1", "2", "3", "-1", "4", "MIN", "MAX"}) {
            for (String person : who) {
                for (String year : new String[] {"1", "40", "0", "41", "-1", "MIN", "MAX"}) {
                    boolean isKind = List.of("0", "1", "2", "3").contains(kind);
                    boolean isThere = there.contains(person) || isFull && (person.equals("3") || person.equals("4"));
                    boolean isDeed = List.of("0", "1", "2", "3").contains(person);
                    int none = isKind && (kind.equals("3") ? isDeed : isThere) ? 0 : NONE;
                    int bad = year.equals("1") || year.equals("40") ? 0 : BAD;
                    calls.add("maybe(" + kind + ", " + person + ", " + year + ")");
                    due.add(first(first(none, bad), isFull ? FULL : 0));
                }
            }
        }
        refused(isFull, calls, due);
    }

    private static void feeds(boolean isFull) {
        List<String> calls = new ArrayList<>();
        List<Integer> due = new ArrayList<>();
        for (String w : new String[] {"0", "0x70", "MIN", "MAX", "-1"}) {
            for (String n : new String[] {"1", "8", "0", "9", "-1", "MIN", "MAX"}) {
                calls.add("feed(" + w + ", " + n + ")");
                due.add(first(n.equals("1") || n.equals("8") ? 0 : BAD, isFull ? FULL : 0));
            }
        }
        refused(isFull, calls, due);
        if (isFull) {
            changeNothing(true, List.of("grant()", "grant()"), List.of(FULL, FULL));
        }
    }

    private static void rows(boolean isFull) {
        List<String> calls = new ArrayList<>();
        List<Integer> due = new ArrayList<>();
        for (String set : new String[] {"-1", "0", "16383", "-2", "16384", "MIN", "MAX"}) {
            boolean isSet = set.equals("0") || set.equals("16383");
            calls.add("row(" + set + ")");
            due.add(set.equals("-1") ? 0 : first(isSet ? 0 : BAD, isFull ? FULL : 0));
        }
        refused(isFull, calls, due);
    }

    private static void strikes(boolean isFull) {
        List<String> calls = new ArrayList<>();
        List<Integer> due = new ArrayList<>();
        int grants = isFull ? 6 : 2;
        for (String grant : new String[] {"0", (grants - 1) + "", "-1", grants + "", "MIN", "MAX"}) {
            for (String n : new String[] {"0", "11", "40", "-1", "41", "MIN", "MAX"}) {
                boolean isGrant = grant.equals("0") || grant.equals((grants - 1) + "");
                boolean isN = n.equals("0") || n.equals("11") || n.equals("40");
                // Of the few: the second CLAUSE of GRANT 0 BEGINS in YEAR 24, 12 behind; of GRANT 1 none.
                // Of all: not all LIVES can die.
                boolean isStruck = !isFull && grant.equals("0") && !n.equals("40");
                calls.add("strike(" + grant + ", " + n + ")");
                due.add(first(first(isGrant ? 0 : NONE, isN ? 0 : BAD), isStruck ? 0 : STATE));
            }
        }
        refused(isFull, calls, due);
    }

    private static void noImage() {
        says("STATE: there is none.");
        Asked x = asked("person(60, -1)", "maybe(1, 0, 9)").grant("p0 9y;f0 life", 0).feed("p0 ").due("undo()", STATE).due("undo()", STATE);
        x.due("count(0)", 1).due("count(1)", 1).due("count(2)", 1).due("count(4)", 3).due("has(0, 1, 8, 0)", 1).due("undo()", STATE);
        says("REFUSALS, of several the first one told");
        Asked full = asked("person(20, -1)", "maybe(0, 0, 1)", "maybe(1, 0, 1)");
        for (int g = 0; g < 6; g++) {
            full.grant("p0 life;f0 life if a39", g);
        }
        full.feed("p0 life").due("strike(0, 38)", FULL).due("strike(0, 39)", STATE).due("strike(0, 41)", BAD).due("strike(6, 38)", NONE);
        full.due("count(2)", 6).due("count(4)", 7).due("told(5, -1)", 2).due("told(0, -1)", 2).due("late(0, 1, 38, 1)", 3);
    }
}
