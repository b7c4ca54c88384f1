import java.io.IOException;

/** Promises 23 to 28, sentence by sentence: each KIND and body, ints that wrap, all of THE IMAGE, each count at its most. */
public final class ActsEdgesTest extends Edges {
    private static final int HAS = 0, WAITS = 1, ENDS = 2;
    private static final int MIN = Integer.MIN_VALUE, MAX = Integer.MAX_VALUE;
    private static final String ALL_KINDS = "p0 life;p1 life;>d0:p2 life;f0 life if w;c0 life;>a9:c0 life if d0";

    public static void main(String[] args) throws IOException {
        begin("ActsEdgesTest");
        interests();
        bodies();
        wraps();
        theGrantsNumber();
        noTraceThen();
        firstTwenty();
        trace();
        kinds();
        kindsRefused();
        image();
        undo();
        allThatThereIs();
        othersInTheirPlaces();
        counts();
        countsAtTheirMost();
        checks.end();
    }

    private static void interests() {
        says("INTERESTS are CLAUSES by KIND: 0 INTEREST; 1 NOW (the first CLAUSE), 2 BEHIND (each other one without an if, no SHIFT), 3 SHIFT under INTEREST; 4 IF (with an if) under BEHIND; 5 CLASS (c, no if) under BEHIND; 6 LATER (a SHIFT with an if) under SHIFT.");
        String[] firsts = {"p0 life", "c0 life", "f0 life if w", "c0 0y if a0", "p0 ever if d3"};
        for (String first : firsts) {
            asked().grant(first, 0).due("as(0, 0, 0)", 1).due("as(0, 0, 1)", 1).due("as(0, 0, 2)", -6);
        }
        Object[][] others = {
            {"p0 life", 2}, {"f0 9y", 2}, {"c0 ever", 5}, {"p0 life if w", 4}, {"f0 life if a0", 4}, {"c0 0y if d0", 4},
            {">d0:p0 life", 3}, {">w:f0 9y", 3}, {">a0:c0 ever", 3}, {">d0:p0 life if w", 6}, {">w:f0 9y if a0", 6}, {">a0:c0 ever if d0", 6},
        };
        for (Object[] other : others) {
            asked().grant("p0 life;" + other[0], 0).due("as(0, 1, 0)", (int) other[1]);
            asked().grant("c0 life;c0 life;" + other[0], 0).due("as(0, 2, 0)", (int) other[1]);
        }
    }

    private static void act(Asked x, String call, int want, int... bodies) {
        x.due(call, want).due("count(5)", bodies.length).due("trace(" + bodies.length + ")", NONE).due("trace(-1)", NONE);
        for (int i = 0; i < bodies.length; i++) {
            x.due("trace(" + i + ")", bodies[i]);
        }
    }

    private static void bodies() {
        says("has(..) and so on: the body of its KIND, or, if that has none, of the next KIND above that has one; super.has(..): so from the KIND above the body's on; what stands in a body is done from the left on.");
        Asked x = asked().grant("p0 life", 0).grant("p0 life", 1).grant(ALL_KINDS, 2);
        says("NOW: 11 has: super.has(x * 3).");
        act(x, "act(2, 0, 0, 9)", 27, 11, 1);
        act(x, "act(2, 0, 1, 9)", 25, 2, 11, 1);
        act(x, "act(2, 0, 2, 9)", 50, 3, 2, 11, 1);
        says("INTEREST: 1 has: x + i. 2 waits: has(x) - g. 3 ends: waits(x) * 2.");
        act(x, "act(2, 1, 0, 9)", 10, 1);
        says("BEHIND: 21 waits: -super.waits(x).");
        act(x, "act(2, 1, 1, 9)", -8, 21, 2, 1);
        act(x, "act(2, 1, 2, 9)", -16, 3, 21, 2, 1);
        says("SHIFT: 31 ends: super.ends(x) ^ 5.");
        act(x, "act(2, 2, 0, 9)", 11, 1);
        act(x, "act(2, 2, 1, 9)", 9, 2, 1);
        act(x, "act(2, 2, 2, 9)", 18 ^ 5, 31, 3, 2, 1);
        says("IF: 41 ends: super.ends(x - 1) + has(2).");
        act(x, "act(2, 3, 0, 9)", 12, 1);
        act(x, "act(2, 3, 1, 9)", -10, 21, 2, 1);
        act(x, "act(2, 3, 2, 9)", -18 + 5, 41, 3, 21, 2, 1, 1);
        says("CLASS: 51 has: super.has(x) ^ i.");
        act(x, "act(2, 4, 0, 9)", 13 ^ 4, 51, 1);
        act(x, "act(2, 4, 1, 9)", -((13 ^ 4) - 2), 21, 2, 51, 1);
        act(x, "act(2, 4, 2, 9)", -((13 ^ 4) - 2) * 2, 3, 21, 2, 51, 1);
        says("LATER: 61 waits: super.waits(x) + g.");
        act(x, "act(2, 5, 0, 9)", 14, 1);
        act(x, "act(2, 5, 1, 9)", 14, 61, 2, 1);
        act(x, "act(2, 5, 2, 9)", 28 ^ 5, 31, 3, 61, 2, 1);
    }

    private static void wraps() {
        says("ACTS of CLAUSE i of a GRANT with x (ints, wrapping)");
        Asked x = asked().grant("p0 life", 0).grant(ALL_KINDS, 1);
        x.due("act(1, 1, 0, MAX)", MIN).due("act(1, 5, 0, 2147483643)", MIN).due("act(1, 5, 0, 2147483642)", MAX).due("act(1, 0, 0, MAX)", MAX - 2);
        x.due("act(1, 0, 0, 715827882)", 2147483646).due("act(1, 0, 0, 715827883)", -2147483647).due("act(1, 0, 0, MIN)", MIN);
        x.due("act(1, 0, 1, MIN)", MAX).due("act(1, 0, 0, -715827883)", MAX).due("act(1, 0, 0, -715827882)", -2147483646);
        x.due("act(1, 1, 1, MIN)", MIN).due("act(1, 1, 1, MAX)", -MAX).due("act(1, 1, 1, -2147483647)", MAX);
        x.due("act(1, 2, 1, MAX)", MIN).due("act(1, 2, 2, 1073741823)", MIN ^ 5).due("act(1, 2, 2, 1073741822)", 2147483646 ^ 5);
        x.due("act(1, 1, 2, MIN)", 0).due("act(1, 1, 2, 1073741824)", MIN).due("act(1, 1, 2, 1073741825)", 2147483646);
        x.due("act(1, 3, 2, MIN)", -2 * (MAX + 3 - 1) + 5).due("act(1, 3, 2, -2147483647)", 1).due("act(1, 3, 2, 1073741823)", MIN + 5);
        x.due("act(1, 4, 0, MAX)", (MIN + 3) ^ 4).due("act(1, 4, 1, MAX)", -(((MIN + 3) ^ 4) - 1)).due("act(1, 4, 0, -4)", 4);
        x.due("act(1, 5, 1, MAX)", MIN + 4).due("act(1, 5, 2, MAX)", 8 ^ 5).due("act(1, 5, 2, -1073741829)", MIN ^ 5);
    }

    private static void theGrantsNumber() {
        says("g the GRANT's number");
        Asked x = asked();
        for (int g = 0; g < 6; g++) {
            x.grant("p0 life;c0 life;>d0:p0 life if w;>d0:p0 life", g);
            x.due("act(" + g + ", 0, 1, 0)", -g).due("act(" + g + ", 2, 1, 0)", 2).due("act(" + g + ", 3, 1, 0)", 3 - g);
            x.due("act(" + g + ", 1, 1, 9)", -((10 ^ 1) - g)).due("act(" + g + ", 3, 0, 9)", 12);
        }
    }

    private static void noTraceThen() {
        says("An ACT (0 has, 1 waits, 2 ends) of a CLAUSE with x. 0, and no TRACE then: no such GRANT, CLAUSE, act.");
        String[] none = {
            "act(1, 0, 0, 7)", "act(-1, 0, 0, 7)", "act(6, 0, 0, 7)", "act(MIN, 0, 0, 7)", "act(MAX, 0, 0, 7)", "act(0, 6, 0, 7)", "act(0, -1, 0, 7)",
            "act(0, MIN, 0, 7)", "act(0, MAX, 0, 7)", "act(0, 0, 3, 7)", "act(0, 0, -1, 7)", "act(0, 0, MIN, 7)", "act(0, 0, MAX, 7)", "act(1, 6, 3, MIN)",
        };
        Asked x = asked().grant(ALL_KINDS, 0).due("count(5)", 0).due("trace(0)", NONE);
        for (String call : none) {
            act(x, "act(0, 3, 2, 9)", -22 + 5, 41, 3, 21, 2, 1, 1);
            act(x, call, 0);
            x.due("trace(0)", NONE).due("trace(5)", NONE);
        }
        asked().due("act(0, 0, 0, 7)", 0).due("count(5)", 0).due("trace(0)", NONE);
        Asked few = asked().grant("p0 life;p0 life", 0).due("act(0, 2, 0, 7)", 0).due("act(0, 1, 0, 7)", 8);
        few.due("trace(0)", 1).due("has(1, 0, 0, 0)", NONE).due("as(0, 2, 0)", NONE).due("trace(0)", 1).due("count(5)", 1);
    }

    private static void firstTwenty() {
        says("THE TRACE: the numbers of the bodies that ran in the latest act(), as they began; the first 20 are kept.");
        Asked x = asked().grant(ALL_KINDS, 0);
        act(x, "act(0, 3, 2, 9)", -22 + 5, 41, 3, 21, 2, 1, 1);
        for (int i = 6; i <= 21; i++) {
            x.due("trace(" + i + ")", NONE);
        }
        act(x, "act(0, 1, 0, 9)", 10, 1);
        x.due("trace(1)", NONE).due("trace(5)", NONE);
        act(x, "act(0, 0, 1, 9)", 27, 2, 11, 1);
        x.due("image()", 0).due("trace(1)", 11);
    }

    private static void trace() {
        says("THE TRACE's i-th body. NONE.");
        Asked x = asked().due("trace(0)", NONE).grant(ALL_KINDS, 0).due("act(0, 2, 1, 9)", 11).due("trace(0)", 2).due("trace(1)", 1);
        for (String i : new String[] {"-1", "2", "19", "20", "MIN", "MAX"}) {
            x.due("trace(" + i + ")", NONE);
        }
        x.due("act(0, 5, 2, 9)", 28 ^ 5).due("trace(4)", 1).due("trace(5)", NONE);
    }

    private static void kinds() {
        says("A CLAUSE taken for a KIND k (0 .. 6), or one under that: its KIND. NONE: grant, clause, k; -6: it is of another KIND.");
        Asked x = asked().grant(ALL_KINDS, 0);
        String[] under = {"01", "02", "03", "024", "025", "036"};
        for (int clause = 0; clause < 6; clause++) {
            for (int k = 0; k <= 6; k++) {
                x.due("as(0, " + clause + ", " + k + ")", under[clause].indexOf('0' + k) >= 0 ? clause + 1 : -6);
            }
        }
    }

    private static void kindsRefused() {
        says("NONE: grant, clause, k; -6: it is of another KIND.");
        Asked x = asked().due("as(0, 0, 0)", NONE).grant("p0 life;p0 life", 0);
        for (String wrong : new String[] {"-1", "7", "MIN", "MAX"}) {
            x.due("as(0, 0, " + wrong + ")", NONE).due("as(0, " + wrong + ", 0)", NONE).due("as(" + wrong + ", 0, 0)", NONE);
        }
        x.due("as(0, 2, 0)", NONE).due("as(1, 0, 0)", NONE).due("as(0, 1, 6)", -6).due("as(0, 1, 0)", 2);
    }

    private static void image() {
        says("THE IMAGE is taken: how many PERSONS there are.");
        Asked x = asked();
        for (int p = 0; p < 8; p++) {
            x.due("image()", p).due("image()", p).does("person(50, -1)");
        }
        x.due("image()", 8).does("maybe(0, 0, 1)").due("image()", 8).due("undo()", 8).due("count(1)", 1);
    }

    private static void undo() {
        says("All is as THE IMAGE: how many PERSONS. STATE: there is none.");
        Asked x = asked().due("undo()", STATE).does("person(50, -1)").due("undo()", STATE).due("count(0)", 1).due("image()", 1);
        x.due("undo()", 1).does("person(50, -1)", "person(50, -1)").due("undo()", 1).due("undo()", 1).due("count(0)", 1);
        x.does("person(50, -1)").due("image()", 2).does("person(50, -1)").due("undo()", 2).due("undo()", 2).due("count(0)", 2);
        Asked nobody = asked().due("image()", 0).does("person(50, -1)", "maybe(3, 0, 1)").due("undo()", 0).due("count(0)", 0);
        nobody.due("count(1)", 0).due("life(0, 0, 0, 0)", 0).due("life(0, 1, 0, 0)", BAD).does("person(7, -1)").due("life(0, 0, 0, 1)", 7);
    }

    private static void allThatThereIs() {
        says("THE IMAGE: all that there is (but THE IMAGE).");
        Asked x = asked("person(50, -1)", "person(20, 0)", "maybe(1, 0, 10)", "maybe(0, 0, 9)").grant("p0 12y;c0 life if a25", 0);
        x.feed("p0 7").does("row(1)", "row(2)").due("act(0, 1, 2, 4)", -2 * 4 + 3).due("image()", 2);
        for (int round = 0; round < 2; round++) {
            x.does("person(90, -1)", "person(80, 2)", "maybe(3, 0, 1)", "maybe(2, 1, 1)").feed("y;p1 9y").due("grant()", 1).grant("c2 ever", 2);
            x.feed("xyz").due("row(-1)", 0).does("row(8)", "row(8)", "row(8)").due("act(0, 0, 0, 4)", 12).due("has(1, 0, 7, 0)", 2);
            x.due("has(2, 0, 0, 0)", 8).due("life(1, 8, 1, 2)", 1).due("judged(0, 0)", 0).due("undo()", 2);
            x.due("count(0)", 2).due("count(1)", 2).due("count(2)", 1).due("count(3)", 2).due("count(4)", 4).due("count(5)", 6);
            x.due("life(1, 4, 0, 0)", BAD).due("life(2, 0, 0, 1)", NOT).due("life(1, 3, 40, 2)", 0).due("life(0, 1, 10, 0)", 0);
            x.due("told(0, 0)", 12).due("told(0, 1)", 25).due("told(1, -1)", NONE).due("has(0, 0, 12, 0)", 2).due("has(0, 1, 10, 1)", 1);
            x.due("judged(0, 0)", 1).due("trace(0)", 41).due("trace(5)", 1).due("measure(1)", NOT).due("trace(6)", NONE);
        }
        x.due("grant()", -10 - 4).due("undo()", 2).feed("y").due("grant()", 1).due("told(1, 0)", 7).due("has(1, 0, 6, 0)", 1).due("undo()", 2);
        x.does("person(19, 1)").due("person(20, 1)", STATE).due("life(2, 0, 0, 1)", 19).due("row(3)", 3).due("judged(0, 0)", 1);
        Asked y = asked("person(50, -1)", "person(20, 0)", "maybe(1, 0, 10)").due("image()", 2).due("undo()", 2).does("maybe(1, 1, 20)");
        y.due("measure(3)", 1).due("undo()", 2).does("maybe(1, 1, 5)").due("measure(3)", 0).due("life(1, 2, 5, 0)", 0);
    }

    private static void othersInTheirPlaces() {
        says("All is as THE IMAGE");
        Asked x = asked("person(50, -1)", "person(49, -1)").grant("c0 life", 0).grant("c1 life", 1).grant("p0 9y;>d0:p1 9y", 2).due("image()", 2);
        for (int round = 0; round < 3; round++) {
            int parent = round % 2;
            int other = 1 - parent;
            x.does("person(9, " + parent + ")", "maybe(0, " + parent + ", 3)", "maybe(" + (round == 1 ? 2 : 3) + ", 0, 4)");
            x.due("has(" + parent + ", 0, 0, 0)", 4).due("has(" + other + ", 3, 40, 0)", 0).due("has(" + parent + ", 1, 3, 0)", 4);
            x.due("began(2, 1, 3)", round == 1 ? NOT : 4).due("life(0, 3, 4, 2)", round == 1 ? 1 : 0).due("life(8, 1, 3, 0)", 1).due("undo()", 2);
            x.due("has(0, 0, 0, 0)", 0).due("has(1, 0, 40, 0)", 0).due("began(2, 1, 0)", NOT).due("life(0, 0, 40, 2)", 0).due("life(8, 0, 40, 0)", 0);
        }
        x.does("person(5, -1)", "maybe(0, 2, 3)").due("has(0, 0, 0, 0)", 0).due("has(1, 1, 40, 0)", 0).due("life(2, 0, 0, 1)", 5);
    }

    private static void counts() {
        says("0 PERSONS, 1 MAYBES, 2 GRANTS, 3 numbers of the ROW, 4 bytes of THE TAPE, 5 bodies that ran in the latest act() (all, kept or not). NONE.");
        Asked x = asked();
        for (String what : new String[] {"-1", "6", "MIN", "MAX"}) {
            x.due("count(" + what + ")", NONE);
        }
        String[] made = {"person(50, -1)", "maybe(3, 0, 1)", "grant()", "row(0)", "feed(0, 1)", "act(0, 0, 0, 0)"};
        int[] counts = {0, 0, 0, 0, 0, 0};
        for (int what = 0; what < made.length; what++) {
            if (what == 2) {
                x.feed("p0 life");
            }
            x.does(made[what]);
            counts[what] = what == 5 ? 2 : 1;
            for (int w = 0; w < counts.length; w++) {
                x.due("count(" + w + ")", counts[w]);
            }
        }
    }

    private static void countsAtTheirMost() {
        says("0 PERSONS, 1 MAYBES, 2 GRANTS, 3 numbers of the ROW, 4 bytes of THE TAPE, 5 bodies that ran in the latest act() (all, kept or not). NONE.");
        Asked x = asked();
        for (int p = 0; p < 8; p++) {
            x.does("person(" + (80 - p) + ", " + (p - 1) + ")");
        }
        for (int m = 0; m < 6; m++) {
            x.does("maybe(0, " + (m == 0 ? 7 : 7 + m) + ", " + (m + 35) + ")").grant(ALL_KINDS, m);
        }
        for (int i = 0; i < 41; i++) {
            x.does("row(16383)");
        }
        for (int i = 0; i < 10; i++) {
            x.does("feed(-1, 8)");
        }
        x.due("act(5, 3, 2, 0)", -2 * (2 - 5) + 5);
        for (int round = 0; round < 2; round++) {
            x.due("count(0)", 8).due("count(1)", 6).due("count(2)", 6).due("count(3)", 41).due("count(4)", 80).due("count(5)", 6);
            x.due("person(5, -1)", FULL).due("maybe(3, 0, 1)", FULL).due("grant()", FULL).due("row(0)", FULL).due("feed(0, 1)", FULL);
            x.due("image()", 8).due("undo()", 8);
        }
        x.due("life(13, 63, 40, 0)", 1).due("life(13, 31, 40, 0)", 0);
    }
}
