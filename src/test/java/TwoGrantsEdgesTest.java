import java.io.IOException;

/** Promises 20 to 22, sentence by sentence: from the first YEAR and COURSE to the last. */
public final class TwoGrantsEdgesTest extends Edges {
    public static void main(String[] args) throws IOException {
        begin("TwoGrantsEdgesTest");
        theFirstFirst();
        backByTheFirst();
        both();
        clash();
        clashRefused();
        same();
        theFirstCourse();
        sameRefused();
        checks.end();
    }

    private static void theFirstFirst() {
        says("TWO GRANTS of the field, the first given first: in a YEAR of a COURSE those have it that have it by the first; if it is BACK by that, those by the second.");
        Asked x = asked("person(50, -1)", "person(40, -1)", "maybe(1, 0, 40)", "maybe(1, 0, 1)").grant("p0 life", 0).grant("p1 ever", 1);
        x.due("both(0, 1, 0, 0)", 1).due("both(1, 0, 0, 0)", 2).due("both(0, 1, 0, 40)", 1).due("both(0, 1, 1, 39)", 1);
        x.due("both(0, 1, 1, 40)", 2).due("both(0, 1, 2, 0)", 1).due("both(0, 1, 2, 1)", 2).due("both(1, 0, 1, 40)", 2);
        x.due("both(0, 0, 1, 39)", 1).due("both(0, 0, 1, 40)", 0).due("both(1, 1, 3, 40)", 2);
        x.grant("p0 ever", 2).due("both(2, 1, 3, 40)", 1).due("both(1, 2, 3, 40)", 2);
    }

    private static void backByTheFirst() {
        says("if it is BACK by that, those by the second.");
        Asked x = asked("person(50, -1)", "person(40, 0)", "person(30, 0)", "maybe(2, 0, 5)", "maybe(3, 0, 7)");
        x.grant("p0 2y if w", 0).grant("c0 9y", 1).grant("p7 life", 2).grant("p0 0y;>d0:p0 1y", 3);
        x.due("both(0, 1, 1, 4)", 6).due("both(0, 1, 1, 5)", 1).due("both(0, 1, 1, 6)", 1).due("both(0, 1, 1, 7)", 6);
        x.due("both(0, 1, 1, 8)", 6).due("both(0, 1, 1, 9)", 0).due("both(1, 0, 1, 6)", 6).due("both(2, 1, 0, 0)", 6).due("both(1, 2, 0, 9)", 0);
        x.due("both(3, 1, 2, 6)", 6).due("both(3, 1, 2, 7)", 1).due("both(3, 1, 2, 8)", 6).due("both(3, 2, 2, 8)", 0).due("both(2, 2, 3, 40)", 0);
    }

    private static void both() {
        says("Of TWO GRANTS: PERSONS that have it in a COURSE and YEAR, as bits. NONE; BAD.");
        Asked x = asked("person(50, -1)", "maybe(1, 0, 3)").grant("p0 life", 0).grant("p0 1y", 1);
        for (String wrong : new String[] {"-1", "2", "MIN", "MAX"}) {
            x.due("both(" + wrong + ", 0, 0, 0)", NONE).due("both(0, " + wrong + ", 0, 0)", NONE).due("both(0, " + wrong + ", 2, 41)", NONE);
            x.due("both(0, 1, " + wrong + ", 0)", BAD);
        }
        for (String wrong : new String[] {"-1", "41", "MIN", "MAX"}) {
            x.due("both(0, 1, 0, " + wrong + ")", BAD).due("both(2, 1, 0, " + wrong + ")", NONE);
        }
        x.due("both(1, 0, 1, 40)", 0).due("both(1, 0, 0, 40)", 1);
    }

    private static void clash() {
        says("CLASH: YEARS of a COURSE in which by both somebody has it.");
        Asked x = asked("person(50, -1)", "person(40, -1)", "maybe(1, 0, 40)", "maybe(1, 0, 1)", "maybe(2, 1, 40)");
        x.grant("p0 life", 0).grant("p1 ever", 1).grant("p1 ever if w", 2).grant("p7 ever", 3).grant("p1 10y", 4).grant("p0 10y;p7 1y;p0 ever", 5);
        x.due("clash(0, 1, 0)", 41).due("clash(0, 1, 1)", 40).due("clash(0, 1, 2)", 1).due("clash(1, 0, 2)", 1).due("clash(1, 1, 0)", 41);
        x.due("clash(1, 2, 4)", 1).due("clash(0, 2, 4)", 1).due("clash(0, 2, 5)", 0).due("clash(2, 1, 0)", 0).due("clash(3, 1, 0)", 0);
        x.due("clash(3, 3, 0)", 0).due("clash(4, 1, 0)", 10).due("clash(4, 5, 0)", 10).due("clash(5, 1, 0)", 41).due("clash(5, 1, 1)", 41);
        x.due("clash(5, 0, 2)", 1).due("clash(5, 5, 2)", 1).due("clash(1, 1, 7)", 41);
        x.does("maybe(3, 0, 20)").due("undo()", STATE).due("clash(4, 1, 15)", 10);
    }

    private static void clashRefused() {
        says("CLASH: how many YEARS. NONE; BAD.");
        Asked x = asked("person(50, -1)", "maybe(1, 0, 3)").grant("p0 life", 0).grant("p0 1y", 1);
        for (String wrong : new String[] {"-1", "2", "MIN", "MAX"}) {
            x.due("clash(" + wrong + ", 0, 0)", NONE).due("clash(0, " + wrong + ", 0)", NONE).due("clash(0, " + wrong + ", 2)", NONE);
            x.due("clash(" + wrong + ", 0, -1)", NONE).due("clash(0, 1, " + wrong + ")", BAD);
        }
        x.due("clash(0, 1, 1)", 1).due("clash(0, 0, 1)", 3);
    }

    private static void same() {
        says("SAME: by both the same PERSONS have it in all COURSES and YEARS; else the first COURSE (as bits, the least) in which not.");
        Asked x = asked("person(50, -1)", "person(40, 0)").grant("p0 life", 0).grant("p0 ever", 1).grant("p0 9y;p0 life", 2).grant("p0 40y", 3);
        x.grant("p0 40y;p1 ever", 4).grant("p0 41y", 5);
        x.due("same(0, 0)", NOT).due("same(0, 1)", NOT).due("same(0, 2)", NOT).due("same(2, 1)", NOT).due("same(0, 3)", 0).due("same(3, 0)", 0);
        x.due("same(3, 4)", 0).due("same(0, 4)", 0).due("same(0, 5)", NOT).due("same(5, 3)", 0);
        x.does("maybe(1, 0, 40)").due("same(0, 1)", 1).due("same(1, 0)", 1).due("same(0, 3)", 0).due("same(0, 5)", NOT).due("same(1, 5)", 1);
        Asked zero = asked("person(50, -1)", "person(40, 0)", "maybe(3, 0, 40)").grant("p0 1y;p1 ever", 0).grant("p1 ever", 1).due("same(0, 1)", 0);
        zero.due("same(1, 0)", 0).grant("p1 ever;>d0:p0 ever", 2).due("same(1, 2)", 1).due("same(2, 1)", 1).due("same(0, 2)", 0);
        Asked y = asked("person(50, -1)", "person(40, 0)").grant("c0 life", 0).grant("p1 life", 1).grant("f0 life", 2).grant("p7 ever;c0 life", 3);
        y.due("same(0, 1)", NOT).due("same(0, 2)", NOT).due("same(0, 3)", NOT).does("person(30, 0)").due("same(0, 1)", 0).due("same(1, 2)", NOT);
        y.grant("p6 life", 4).grant("c7 9y;p6 9y", 5).due("same(4, 5)", NOT).due("same(4, 0)", 0).due("same(0, 3)", NOT);
    }

    private static void theFirstCourse() {
        says("else the first COURSE (as bits, the least) in which not");
        Asked x = asked("person(50, -1)", "maybe(2, 0, 1)", "maybe(3, 0, 2)", "maybe(3, 1, 3)", "maybe(3, 2, 4)", "maybe(0, 0, 5)");
        x.does("maybe(3, 3, 40)").grant("p0 ever", 0).grant("p0 ever;>d3:p7 life", 1).grant("p0 ever;>d2:c0 9y;>d3:p0 9y", 2);
        x.due("same(0, 1)", 32).due("same(1, 0)", 32).due("same(0, 2)", 8).due("same(1, 2)", 8).grant("p0 ever;>d0:p0 ever if w", 3);
        x.due("same(0, 3)", 2).grant("p0 ever;>d3:p0 ever", 4).due("same(0, 4)", NOT).due("same(1, 4)", 32);
        Asked y = asked("person(50, -1)", "maybe(0, 0, 1)", "maybe(0, 8, 2)", "maybe(0, 9, 3)", "maybe(0, 10, 4)", "maybe(0, 11, 5)");
        y.does("maybe(2, 12, 40)").grant("p0 ever;>d0:p0 ever", 0).due("life(12, 31, 5, 0)", 1).due("life(12, 63, 40, 2)", 1);
        Asked z = asked("person(50, -1)", "maybe(0, 0, 1)", "maybe(0, 8, 2)", "maybe(1, 0, 3)", "maybe(1, 8, 4)", "maybe(1, 9, 5)");
        z.does("maybe(3, 0, 5)").grant("f0 5y if a39;p0 ever", 0).grant("f0 6y if a39;p0 ever", 1).due("same(0, 1)", NOT);
        z.grant("p0 ever", 2).grant("p0 3y;p0 ever", 3).due("same(2, 3)", 4).grant("p0 4y;p0 ever", 4).due("same(3, 4)", NOT).due("same(2, 4)", 4);
    }

    private static void sameRefused() {
        says("SAME: -5; else the COURSE. NONE.");
        Asked x = asked().due("same(0, 0)", NONE).grant("p0 life", 0).due("same(0, 0)", NOT);
        for (String wrong : new String[] {"-1", "1", "6", "MIN", "MAX"}) {
            x.due("same(" + wrong + ", 0)", NONE).due("same(0, " + wrong + ")", NONE).due("same(" + wrong + ", " + wrong + ")", NONE);
        }
    }
}
