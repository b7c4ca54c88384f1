/** Promises 23 to 28: acts, the trace, kinds, the image, counts. */
public final class ActsTest {
    private static final Checks CHECKS = new Checks("ActsTest");
    private static final int NONE = -1, STATE = -3;
    private static final int HAS = 0, WAITS = 1, ENDS = 2;

    public static void main(String[] args) {
        bodies();
        wrap();
        noAct();
        kinds();
        images();
        imageKeepsAll();
        counts();
        CHECKS.end();
    }

    private static void due(String call, int got, int want) {
        CHECKS.due(call, got, want);
    }

    /** GRANTS 0 and 1 of all KINDS: NOW, BEHIND, SHIFT, IF, CLASS, LATER. */
    private static LifeGrants allKinds() {
        LifeGrants x = new LifeGrants();
        String text = "p0 life;p1 life;>d0:p2 life;f0 life if w;c0 life;>a9:c0 life if d0";
        CHECKS.grant(x, text, 0);
        CHECKS.grant(x, text, 1);
        return x;
    }

    private static void acts(LifeGrants x, int clause, int act, int want, int... bodies) {
        String call = "act(1, " + clause + ", " + act + ", 7)";
        due(call, x.act(1, clause, act, 7), want);
        for (int i = 0; i < bodies.length; i++) {
            due(call + " trace(" + i + ")", x.trace(i), bodies[i]);
        }
        due(call + " trace(-1)", x.trace(-1), NONE);
        due(call + " trace(" + bodies.length + ")", x.trace(bodies.length), NONE);
        due(call + " trace(20)", x.trace(20), NONE);
        due(call + " count(5)", x.count(5), bodies.length);
    }

    private static void bodies() {
        LifeGrants x = allKinds();
        acts(x, 0, HAS, 21, 11, 1);
        acts(x, 0, WAITS, 20, 2, 11, 1);
        acts(x, 0, ENDS, 40, 3, 2, 11, 1);
        acts(x, 1, HAS, 8, 1);
        acts(x, 1, WAITS, -7, 21, 2, 1);
        acts(x, 1, ENDS, -14, 3, 21, 2, 1);
        acts(x, 2, HAS, 9, 1);
        acts(x, 2, WAITS, 8, 2, 1);
        acts(x, 2, ENDS, 16 ^ 5, 31, 3, 2, 1);
        acts(x, 3, HAS, 10, 1);
        acts(x, 3, WAITS, -9, 21, 2, 1);
        acts(x, 3, ENDS, -16 + 5, 41, 3, 21, 2, 1, 1);
        acts(x, 4, HAS, 11 ^ 4, 51, 1);
        acts(x, 4, WAITS, -((11 ^ 4) - 1), 21, 2, 51, 1);
        acts(x, 4, ENDS, -2 * ((11 ^ 4) - 1), 3, 21, 2, 51, 1);
        acts(x, 5, HAS, 12, 1);
        acts(x, 5, WAITS, 12, 61, 2, 1);
        acts(x, 5, ENDS, 24 ^ 5, 31, 3, 61, 2, 1);
        due("g of GRANT 0", x.act(0, 5, WAITS, 7), 12);
        due("g of GRANT 0, SHIFT", x.act(0, 2, WAITS, 7), 9);
    }

    private static void wrap() {
        LifeGrants x = allKinds();
        int max = Integer.MAX_VALUE;
        int min = Integer.MIN_VALUE;
        due("act(0, 0, 0, MAX)", x.act(0, 0, HAS, max), max - 2);
        due("act(0, 1, 0, MAX)", x.act(0, 1, HAS, max), min);
        due("act(0, 1, 1, MAX)", x.act(0, 1, WAITS, max), min);
        due("act(1, 3, 2, MIN)", x.act(1, 3, ENDS, min), 2 * (-(max + 3 - 1)) + 5);
        due("act(1, 4, 2, -1)", x.act(1, 4, ENDS, -1), -2 * ((3 ^ 4) - 1));
    }

    private static void noAct() {
        LifeGrants x = allKinds();
        int[][] wrong = {{2, 0, 0}, {-1, 0, 0}, {0, 6, 0}, {0, -1, 0}, {0, 0, 3}, {0, 0, -1}};
        for (int[] w : wrong) {
            x.act(0, 0, ENDS, 7);
            due("count(5)", x.count(5), 4);
            due("an act of none such", x.act(w[0], w[1], w[2], 7), 0);
            due("no TRACE", x.trace(0), NONE);
            due("count(5)", x.count(5), 0);
        }
    }

    private static void kinds() {
        LifeGrants x = allKinds();
        int[] kind = {1, 2, 3, 4, 5, 6};
        int[][] under = {{0, 1}, {0, 2}, {0, 3}, {0, 2, 4}, {0, 2, 5}, {0, 3, 6}};
        for (int clause = 0; clause < 6; clause++) {
            for (int k = 0; k <= 6; k++) {
                boolean isOne = false;
                for (int u : under[clause]) {
                    isOne |= u == k;
                }
                due("as(0, " + clause + ", " + k + ")", x.as(0, clause, k), isOne ? kind[clause] : -6);
            }
            due("as(0, " + clause + ", 7)", x.as(0, clause, 7), NONE);
            due("as(0, " + clause + ", -1)", x.as(0, clause, -1), NONE);
        }
        due("as(2, 0, 0)", x.as(2, 0, 0), NONE);
        due("as(-1, 0, 0)", x.as(-1, 0, 0), NONE);
        due("as(0, 6, 0)", x.as(0, 6, 0), NONE);
        due("as(0, -1, 0)", x.as(0, -1, 0), NONE);
        CHECKS.grant(x, "c0 life if w;c0 life if w;>d0:c0 life", 2);
        due("the first CLAUSE is NOW, whatever it says", x.as(2, 0, 0), 1);
        due("a class with an if is an IF", x.as(2, 1, 0), 4);
        due("a SHIFT to a class is a SHIFT", x.as(2, 2, 0), 3);
    }

    private static void images() {
        LifeGrants x = new LifeGrants();
        due("undo(), none taken", x.undo(), STATE);
        x.person(50, -1);
        due("undo(), none taken", x.undo(), STATE);
        due("count(0)", x.count(0), 1);
        due("image()", x.image(), 1);
        x.person(40, -1);
        x.person(30, -1);
        due("undo()", x.undo(), 1);
        due("count(0)", x.count(0), 1);
        x.person(20, -1);
        due("undo() again", x.undo(), 1);
        x.person(20, -1);
        due("image() anew", x.image(), 2);
        x.person(10, -1);
        due("undo()", x.undo(), 2);
        LifeGrants y = new LifeGrants();
        due("image() of nobody", y.image(), 0);
        y.person(50, -1);
        due("undo() to nobody", y.undo(), 0);
        due("nobody", y.count(0), 0);
    }

    private static void imageKeepsAll() {
        LifeGrants x = new LifeGrants();
        x.person(50, -1);
        x.person(20, 0);
        x.maybe(1, 0, 10);
        CHECKS.grant(x, "p0 life;p1 5y", 0);
        Checks.feed(x, "p1 ");
        x.row(1);
        x.act(0, 0, ENDS, 3);
        due("image()", x.image(), 2);
        x.person(90, -1);
        x.person(30, 2);
        x.maybe(1, 1, 12);
        x.maybe(3, 1, 12);
        Checks.feed(x, "5y;p0 life");
        due("another GRANT", x.grant(), 1);
        due("and its CLAUSE", x.has(1, 1, 5, 0), 1);
        Checks.feed(x, "xyz");
        x.row(-1);
        x.row(3);
        x.row(3);
        x.act(0, 1, HAS, 3);
        due("undo()", x.undo(), 2);
        int[] counts = {2, 1, 1, 1, 3, 4};
        for (int what = 0; what < counts.length; what++) {
            due("count(" + what + ")", x.count(what), counts[what]);
        }
        due("trace(0)", x.trace(0), 3);
        due("trace(3)", x.trace(3), 1);
        due("judged(0, 0)", x.judged(0, 0), -5);
        due("life(2, 0, 0, 0)", x.life(2, 0, 0, 0), 0);
        due("has(0, 1, 10, 0)", x.has(0, 1, 10, 0), 2);
        due("has(1, 0, 0, 0)", x.has(1, 0, 0, 0), NONE);
        Checks.feed(x, "life");
        due("THE TAPE as it was", x.grant(), 1);
        due("its CLAUSE", x.has(1, 0, 0, 0), 2);
        x.person(19, 1);
        x.maybe(2, 2, 3);
        due("a new PERSON in the place of the one undone", x.life(2, 0, 0, 1), 19);
        due("undo() by the same image", x.undo(), 2);
        due("count(4)", x.count(4), 3);
        due("count(2)", x.count(2), 1);
    }

    private static void counts() {
        LifeGrants x = new LifeGrants();
        x.person(50, -1);
        x.person(50, -1);
        x.person(50, -1);
        x.maybe(1, 0, 10);
        x.maybe(1, 0, 10);
        CHECKS.grant(x, "p0 life", 0);
        for (int i = 0; i < 4; i++) {
            x.row(i);
        }
        x.feed(0, 7);
        x.act(0, 0, WAITS, 0);
        int[] counts = {3, 2, 1, 4, 7, 3};
        for (int what = 0; what < counts.length; what++) {
            due("count(" + what + ")", x.count(what), counts[what]);
        }
        due("count(6)", x.count(6), NONE);
        due("count(-1)", x.count(-1), NONE);
    }
}
