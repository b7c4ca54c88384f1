import java.io.IOException;

/** How a GRANT goes, and promises 8 to 14, sentence by sentence: the YEAR ahead, the YEAR itself, the last one. */
public final class CoursesEdgesTest extends Edges {
    public static void main(String[] args) throws IOException {
        begin("CoursesEdgesTest");
        reachesAnAge();
        hasWed();
        deedDone();
        forNobody();
        takersOfPerson();
        firstBorn();
        firstForWhomTheIfHolds();
        allThese();
        clauseZeroRuns();
        firstShiftOfThoseBehind();
        shiftsFirst();
        oneShiftInAYear();
        itHasNotBegun();
        firstYearWithTakers();
        nobodyComesLater();
        backTillItHasBegun();
        endsAsLives();
        endsAfterYears();
        endsNever();
        failsOfPerson();
        failsOfChildren();
        theNextAtOnce();
        backForGood();
        has();
        began();
        sure();
        shown();
        fewestAheadOfLeast();
        holders();
        share();
        judged();
        row();
        checks.end();
    }

    private static void reachesAnAge() {
        says("a: it is ALIVE, and its AGE is that or more");
        Asked x = asked("person(20, -1)", "maybe(0, 0, 3)", "maybe(1, 0, 9)", "maybe(1, 8, 5)");
        x.grant("p0 life if a19", 0).grant("p0 life if a20", 1).grant("p0 life if a21", 2).grant("p0 life if a60", 3);
        x.grant("p0 life if a61", 4).grant("f0 life if a2;p0 life", 5);
        x.due("began(0, 0, 0)", 0).due("began(1, 0, 0)", 0).due("began(2, 0, 0)", 1).due("began(3, 0, 0)", 40);
        x.due("began(4, 0, 0)", NOT).has(2, 0, 0, 0, 0, NOT).has(2, 0, 1, 1, 1, 0).has(3, 0, 39, 39, 0, NOT).has(3, 0, 40, 40, 1, 0);
        x.due("began(5, 0, 1)", 5).due("began(5, 0, 5)", NOT).due("began(5, 1, 7)", NOT).has(5, 1, 4, 4, 0, NOT);
        Asked y = asked("person(20, -1)", "maybe(0, 0, 3)", "maybe(1, 0, 9)", "person(0, -1)", "maybe(1, 0, 8)");
        y.grant("f0 life if a0", 0).grant("p0 life if a28", 1).grant("p0 life if a29", 2).grant("p1 life if a0", 3);
        y.grant("p0 life if a0", 4).grant("p1 life if a1", 5);
        y.due("began(0, 0, 1)", 3).due("began(1, 0, 4)", NOT).due("began(1, 0, 2)", 8).due("began(2, 0, 2)", NOT);
        y.due("began(2, 0, 0)", 9).due("began(3, 0, 0)", 0).due("began(4, 0, 0)", 0).due("began(5, 0, 0)", 1);
    }

    private static void hasWed() {
        says("w: it has wed by then (that YEAR, too)");
        Asked x = asked("person(20, -1)", "person(19, 0)", "maybe(2, 0, 1)", "maybe(2, 0, 40)", "maybe(2, 1, 7)");
        x.grant("p0 life if w", 0).grant("p0 5y;p0 life if w", 1).grant("f0 life if w", 2).grant("c0 9y if w", 3);
        x.due("began(0, 0, 0)", NOT).due("began(0, 0, 1)", 1).due("began(0, 0, 2)", 40).due("began(0, 0, 3)", 1);
        x.has(0, 1, 0, 0, 0, NOT).has(0, 1, 1, 1, 1, 0).has(0, 2, 39, 39, 0, NOT).has(0, 2, 40, 40, 1, 0);
        x.due("began(1, 1, 1)", 5).due("began(1, 1, 2)", 40).due("began(2, 0, 4)", 7).due("began(2, 0, 3)", NOT);
        x.has(3, 4, 6, 6, 0, NOT).has(3, 4, 7, 15, 2, 0).has(3, 4, 16, 16, 0, NOT);
    }

    private static void deedDone() {
        says("d: the DEED was done by then.");
        Asked x = asked("person(20, -1)", "maybe(3, 2, 1)", "maybe(3, 2, 40)", "maybe(3, 3, 5)", "maybe(1, 0, 5)");
        x.grant("p0 life if d2", 0).grant("p0 9y;p0 life if d2", 1).grant("p0 life if d3", 2).grant("p0 life if d1", 3);
        x.due("began(0, 0, 0)", NOT).due("began(0, 0, 1)", 1).due("began(0, 0, 2)", 40).due("began(0, 0, 3)", 1);
        x.due("began(0, 0, 4)", NOT).due("began(1, 1, 1)", 9).due("began(1, 1, 2)", 40).due("began(2, 0, 4)", 5);
        x.due("began(2, 0, 12)", NOT).due("began(3, 0, 7)", NOT).has(0, 1, 0, 0, 0, NOT).has(0, 1, 1, 40, 1, 0);
        x.grant("p0 life;>d2:p0 ever", 4).due("began(4, 1, 1)", 1).due("began(4, 1, 2)", 40).due("began(4, 1, 4)", NOT);
        x.due("began(4, 1, 10)", NOT).due("began(4, 1, 9)", 1);
    }

    private static void forNobody() {
        says("For nobody: d alone (others do not hold).");
        Asked x = asked("person(90, -1)", "person(89, 0)", "maybe(2, 0, 1)", "maybe(2, 1, 1)", "maybe(3, 0, 7)");
        x.grant("p0 ever;>w:p1 ever;>a0:p1 ever;>a99:p1 ever;>d0:p1 ever", 0).grant("p0 0y;>w:p1 ever;>a0:p1 ever", 1);
        x.has(0, 3, 0, 40, 1, 0).has(0, 7, 6, 6, 1, 0).has(0, 7, 7, 40, 2, 4).has(1, 7, 0, 40, 0, NOT);
        x.due("sure(0, 1, 2)", 0).due("sure(0, 2, 2)", 0).due("sure(0, 3, 2)", 0).due("sure(0, 4, 2)", 4);
    }

    private static void takersOfPerson() {
        says("p: that PERSON, if it is ALIVE and its if (if it has one) HOLDS for it");
        Asked x = asked("person(50, -1)", "person(10, -1)", "maybe(1, 0, 5)", "maybe(2, 0, 4)", "maybe(2, 1, 9)");
        x.grant("p1 5y;p0 life;p1 life", 0).grant("p1 4y;p0 life;p1 life", 1).grant("p0 life if w;p1 life if w", 2);
        x.has(0, 1, 5, 5, 2, 2).due("began(0, 1, 1)", NOT).has(1, 1, 4, 4, 1, 1).has(1, 1, 5, 5, 2, 2).has(0, 0, 5, 40, 1, 1);
        x.has(2, 2, 3, 3, 0, NOT).has(2, 2, 4, 40, 1, 0).has(2, 3, 5, 40, 0, NOT).has(2, 7, 9, 40, 2, 1);
        x.has(2, 4, 0, 40, 0, NOT);
    }

    private static void firstBorn() {
        says("the one born first (of those of one YEAR, or there at first, the least; those there at first, PERSONS with that PARENT, by AGE the eldest first, of like AGE the least, ahead of all born later)");
        Asked x = asked("person(60, -1)", "person(0, 0)", "person(20, 0)", "person(21, 0)", "person(21, 0)", "person(59, -1)");
        x.does("maybe(1, 3, 3)", "maybe(1, 4, 3)", "maybe(1, 2, 3)", "maybe(1, 1, 3)", "maybe(0, 0, 1)", "maybe(0, 0, 1)");
        x.grant("p5 3y;f0 life", 0).grant("p5 2y;f0 life", 1);
        x.has(1, 63, 2, 2, 8, 1).has(0, 0, 3, 3, 8, 1).has(0, 1, 3, 3, 16, 1).has(0, 3, 3, 3, 4, 1).has(0, 7, 3, 3, 2, 1);
        x.has(0, 7 + 48, 3, 3, 2, 1).has(0, 15 + 48, 3, 3, 1 << 12, 1).has(0, 15 + 32, 3, 3, 1 << 13, 1);
        x.has(0, 15, 3, 40, 0, NOT).has(0, 48, 3, 3, 8, 1).has(0, 2 + 48, 3, 3, 8, 1).has(0, 5, 3, 3, 16, 1);
        Asked y = asked("person(60, -1)", "maybe(0, 0, 2)", "maybe(0, 0, 1)", "maybe(0, 0, 2)", "maybe(1, 9, 3)");
        y.grant("p0 3y;f0 life", 0).grant("p0 2y;f0 life", 1).grant("p0 1y;f0 life", 2);
        y.has(0, 15, 3, 3, 256, 1).has(0, 7, 3, 3, 512, 1).has(0, 5, 3, 3, 256, 1).has(0, 4, 3, 3, 1024, 1);
        y.has(1, 15, 2, 2, 512, 1).has(1, 15, 3, 3, 0, NOT).has(2, 5, 1, 1, 0, NOT).has(2, 5, 2, 2, 256, 1).has(2, 7, 1, 1, 512, 1);
        Asked z = asked("person(60, -1)", "person(50, -1)", "person(5, 1)", "person(4, 0)", "maybe(0, 1, 1)", "maybe(0, 0, 2)");
        z.grant("f0 life", 0).grant("f1 life", 1).has(0, 3, 0, 40, 8, 0).has(1, 3, 0, 40, 4, 0).grant("f2 life;p0 life", 2).has(2, 3, 0, 40, 0, NOT);
    }

    private static void firstForWhomTheIfHolds() {
        says("f: of the children of that one that are ALIVE and for whom the if HOLDS the one born first");
        Asked x = asked("person(60, -1)", "person(30, 0)", "person(20, 0)", "maybe(2, 2, 5)", "maybe(2, 1, 6)", "maybe(1, 1, 4)");
        x.grant("f0 life if w", 0).grant("f0 life if a25", 1).grant("p0 4y;f0 life", 2).grant("p0 6y;f0 life if w", 3);
        x.has(0, 3, 4, 4, 0, NOT).has(0, 3, 5, 40, 4, 0).has(0, 2, 5, 5, 0, NOT).has(0, 2, 6, 40, 2, 0);
        x.has(1, 0, 0, 40, 2, 0).has(1, 4, 4, 40, 0, NOT).has(2, 0, 4, 4, 2, 1).has(2, 4, 4, 4, 4, 1).has(2, 4, 3, 3, 1, 0);
        x.has(3, 3, 6, 6, 2, 1).has(3, 1, 6, 6, 4, 1).has(3, 7, 6, 6, 4, 1).has(3, 0, 6, 40, 0, NOT);
    }

    private static void allThese() {
        says("c: all these.");
        Asked x = asked("person(60, -1)", "person(30, 0)", "person(20, 0)", "person(10, -1)", "maybe(0, 0, 4)");
        x.does("maybe(1, 2, 5)", "maybe(2, 1, 6)", "maybe(2, 8, 6)", "maybe(0, 1, 1)");
        x.grant("p3 4y;c0 life", 0).grant("p3 5y;c0 life", 1).grant("c0 life if w", 2).grant("p3 3y;c0 life if a14", 3);
        x.has(0, 3, 4, 4, 2 + 4 + 256, 1).has(0, 3, 5, 5, 2 + 256, 1).has(0, 2, 4, 4, 2 + 4, 1).has(1, 3, 5, 5, 2 + 256, 1);
        x.has(2, 13, 5, 5, 0, NOT).has(2, 13, 6, 6, 2 + 256, 0).has(2, 4, 6, 6, 2, 0).has(2, 9, 6, 6, 256, 0).has(2, 8, 6, 40, 0, NOT);
        x.has(3, 16, 3, 3, 2 + 4, 1);
        Asked all = asked("person(60, -1)");
        for (int p = 1; p < 8; p++) {
            all.does("person(" + p + ", 0)");
        }
        for (int m = 0; m < 6; m++) {
            all.does("maybe(0, 0, 40)");
        }
        all.grant("c0 life", 0).has(0, 63, 0, 40, 254, 0).grant("p0 40y;c0 life", 1).has(1, 63, 39, 39, 1, 0);
        all.has(1, 63, 40, 40, 16382, 1).due("share(1, 13, 63, 40)", 13);
    }

    private static void clauseZeroRuns() {
        says("It goes so, YEAR by YEAR from 0 on, beginning with CLAUSE 0 as the one that RUNS");
        Asked x = asked("person(60, -1)", "person(30, 0)", "maybe(3, 0, 1)");
        x.grant("p0 life;>d0:p1 life", 0).has(0, 0, 0, 40, 1, 0).has(0, 1, 0, 0, 1, 0).has(0, 1, 1, 40, 2, 1);
        x.grant("p1 ever", 1).has(1, 1, 0, 40, 2, 0).due("began(1, 0, 1)", 0).due("began(0, 1, 1)", 1);
    }

    private static void firstShiftOfThoseBehind() {
        says("of SHIFTS behind the one that RUNS (or ran last) the first whose COND (for nobody) HOLDS RUNS from then on in its place");
        Asked x = asked("person(60, -1)", "person(30, -1)", "maybe(3, 0, 5)", "maybe(3, 1, 5)", "maybe(3, 2, 8)");
        x.grant("p0 ever;p1 ever;>d1:p1 9y;>d0:p0 ever", 0).has(0, 2, 4, 4, 1, 0).has(0, 2, 5, 13, 2, 2).has(0, 2, 14, 14, 0, NOT);
        x.has(0, 1, 5, 40, 1, 3).has(0, 3, 5, 5, 2, 2).has(0, 3, 6, 40, 1, 3);
        x.grant("p0 ever;>d1:p1 3y;>d0:p0 2y", 1).has(1, 1, 5, 6, 1, 2).has(1, 1, 7, 40, 0, NOT).due("began(1, 1, 3)", 5);
        x.has(1, 2, 5, 7, 2, 1).has(1, 2, 8, 40, 0, NOT);
        x.grant("p0 6y;>d0:p1 ever;p1 9y;>d2:p0 ever", 2).has(2, 4, 6, 7, 2, 2).has(2, 4, 8, 40, 1, 3).has(2, 1, 5, 40, 2, 1);
        x.grant("p0 4y;>d0:p1 ever;p1 9y", 3).has(3, 1, 3, 3, 1, 0).has(3, 1, 4, 12, 2, 2).has(3, 1, 13, 40, 0, NOT).due("began(3, 1, 1)", NOT);
        x.grant("p0 5y;>d0:p1 ever;p1 9y", 4).has(4, 1, 5, 40, 2, 1).due("began(4, 2, 1)", NOT);
    }

    private static void shiftsFirst() {
        says("first, of SHIFTS behind the one that RUNS");
        Asked x = asked("person(60, -1)", "person(30, -1)", "maybe(2, 0, 5)", "maybe(3, 0, 5)", "maybe(1, 0, 5)");
        x.grant("p0 life if w;>d0:p1 life", 0).due("began(0, 0, 3)", NOT).due("began(0, 1, 3)", 5).due("began(0, 0, 1)", 5);
        x.grant("p0 life;p1 ever;>d0:p1 9y", 1).due("began(1, 1, 6)", NOT).due("began(1, 2, 6)", 5).due("began(1, 1, 4)", 5);
        x.grant("p0 5y;p1 ever;>d0:p1 9y", 2).due("began(2, 1, 2)", NOT).due("began(2, 1, 0)", 5).due("began(2, 2, 2)", 5);
        x.grant("p7 life;p0 4y;p1 ever;>d0:p1 9y", 3).due("began(3, 2, 2)", 4).due("began(3, 3, 2)", 5).has(3, 2, 4, 4, 2, 2);
    }

    private static void oneShiftInAYear() {
        says("(it has not BEGUN; only one in a YEAR)");
        Asked x = asked("person(60, -1)", "person(30, -1)", "maybe(3, 0, 5)", "maybe(3, 1, 5)", "maybe(3, 0, 40)", "maybe(3, 1, 40)");
        x.grant("p0 ever;>d0:p1 ever;>d1:p0 ever", 0).has(0, 3, 4, 4, 1, 0).has(0, 3, 5, 5, 2, 1).has(0, 3, 6, 40, 1, 2);
        x.has(0, 12, 39, 39, 1, 0).has(0, 12, 40, 40, 2, 1).due("began(0, 2, 12)", NOT).due("began(0, 2, 3)", 6);
        x.grant("p0 ever;>d0:p7 ever;>d1:p1 ever", 1).has(1, 3, 5, 5, 0, NOT).has(1, 3, 6, 40, 2, 2);
        x.grant("p0 ever;>d0:p7 ever;p0 life;>d1:p1 ever", 2).has(2, 3, 5, 5, 1, 2).has(2, 3, 6, 40, 2, 3);
        x.grant("p0 ever;>d0:p1 0y;>d0:p1 0y;>d1:p1 0y;>d1:p0 2y", 3);
        x.due("began(3, 1, 3)", 5).due("began(3, 2, 3)", 6).due("began(3, 3, 3)", 7).due("began(3, 4, 3)", 8);
        x.has(3, 3, 5, 7, 0, NOT).has(3, 3, 8, 9, 1, 4).has(3, 3, 10, 40, 0, NOT);
    }

    private static void itHasNotBegun() {
        says("(it has not BEGUN; only one in a YEAR)");
        Asked x = asked("person(60, -1)", "person(30, -1)", "maybe(3, 0, 5)", "maybe(2, 1, 9)", "maybe(1, 0, 20)");
        x.grant("p0 ever;>d0:p1 3y if w;p0 life", 0).has(0, 1, 4, 4, 1, 0).has(0, 1, 5, 40, 0, NOT).has(0, 3, 5, 8, 0, NOT);
        x.has(0, 3, 9, 11, 2, 1).has(0, 3, 12, 40, 1, 2).has(0, 7, 20, 40, 0, NOT).due("began(0, 1, 3)", 9);
        x.grant("p0 9y;>d0:p1 3y", 1).has(1, 1, 5, 7, 2, 1).has(1, 1, 8, 40, 0, NOT).due("began(1, 0, 1)", 0);
    }

    private static void firstYearWithTakers() {
        says("the one that RUNS BEGINS in the first YEAR in which it has TAKERS (these have it: of p, f that one, of c all these; of c nobody comes later: it is SHUT)");
        Asked x = asked("person(60, -1)", "person(20, 0)", "maybe(0, 0, 40)", "maybe(2, 0, 6)", "maybe(0, 0, 1)");
        x.grant("p0 3y if w;f0 life", 0).has(0, 2, 5, 5, 0, NOT).has(0, 2, 6, 8, 1, 0).has(0, 2, 9, 40, 2, 1).due("began(0, 0, 2)", 6);
        x.grant("f0 life if a60;c0 life", 1).due("began(1, 0, 0)", 40).has(1, 0, 39, 39, 0, NOT).has(1, 0, 40, 40, 2, 0);
        x.grant("p0 0y;c0 9y if a0", 2).due("began(2, 1, 0)", 0).has(2, 4, 0, 8, 2, 1);
        Asked y = asked("person(60, -1)", "maybe(0, 0, 40)", "maybe(0, 0, 1)");
        y.grant("f0 life", 0).due("began(0, 0, 0)", NOT).due("began(0, 0, 1)", 40).due("began(0, 0, 2)", 1).due("began(0, 0, 3)", 1);
    }

    private static void nobodyComesLater() {
        says("of c nobody comes later: it is SHUT");
        Asked x = asked("person(60, -1)", "person(30, 0)", "person(20, 0)", "maybe(0, 0, 4)", "maybe(2, 2, 9)", "maybe(1, 1, 12)");
        x.does("maybe(2, 1, 3)");
        x.grant("c0 life", 0).has(0, 1, 0, 40, 6, 0).has(0, 5, 11, 11, 6, 0).has(0, 5, 12, 40, 4, 0);
        x.grant("c0 ever", 1).has(1, 5, 0, 40, 6, 0).grant("c0 20y if w", 2).has(2, 10, 3, 22, 2, 0).has(2, 10, 23, 40, 0, NOT);
        x.grant("c0 life if a30;c0 life", 3).has(3, 5, 0, 11, 2, 0).has(3, 5, 12, 12, 4 + 256, 1).has(3, 4, 12, 40, 4, 1);
        Asked y = asked("person(60, -1)", "person(20, 0)", "maybe(1, 1, 5)", "maybe(0, 0, 4)", "maybe(2, 9, 2)");
        y.grant("f0 life;p0 life", 0).has(0, 3, 0, 4, 2, 0).has(0, 3, 5, 40, 1, 1);
        Asked z = asked("person(60, -1)", "maybe(0, 0, 4)", "maybe(0, 0, 4)", "maybe(0, 0, 5)");
        z.grant("c0 life", 0).has(0, 7, 3, 3, 0, NOT).has(0, 7, 4, 40, 256 + 512, 0).has(0, 6, 4, 40, 512, 0).has(0, 4, 5, 40, 1024, 0);
    }

    private static void backTillItHasBegun() {
        says("till it has BEGUN, nobody has the field (it is BACK with the giver)");
        Asked x = asked("person(60, -1)", "person(20, 0)", "maybe(0, 0, 8)", "maybe(3, 0, 3)");
        x.grant("p1 life if a50;p0 life", 0).has(0, 0, 0, 29, 0, NOT).has(0, 0, 30, 40, 2, 0);
        x.grant("p0 4y;p1 life if a30;p0 life", 1).has(1, 0, 3, 3, 1, 0).has(1, 0, 4, 9, 0, NOT).has(1, 0, 10, 40, 2, 1);
        x.grant("p0 ever;>d0:p1 life if a24", 2).has(2, 2, 2, 2, 1, 0).has(2, 2, 3, 3, 0, NOT).has(2, 2, 4, 40, 2, 1);
    }

    private static void endsAsLives() {
        says("life: in the YEAR in which none of those that have it is ALIVE any more (of c those that live on have it)");
        Asked x = asked("person(60, -1)", "person(30, 0)", "person(20, 0)", "maybe(1, 0, 1)", "maybe(1, 1, 5)", "maybe(1, 2, 40)");
        x.grant("p0 life;p2 life", 0).has(0, 0, 0, 40, 1, 0).has(0, 1, 0, 0, 1, 0).has(0, 1, 1, 40, 4, 1).has(0, 5, 39, 39, 4, 1);
        x.has(0, 5, 40, 40, 0, NOT).grant("c0 life;p0 life", 1).has(1, 2, 4, 4, 6, 0).has(1, 2, 5, 40, 4, 0).has(1, 4, 40, 40, 2, 0);
        x.has(1, 6, 5, 39, 4, 0).has(1, 6, 40, 40, 1, 1).has(1, 7, 40, 40, 0, NOT).due("began(1, 1, 6)", 40).due("began(1, 1, 7)", NOT);
        Asked y = asked("person(60, -1)", "person(30, 0)", "person(20, 0)", "maybe(1, 1, 5)", "maybe(1, 2, 5)");
        y.grant("c0 life;p0 life", 0).has(0, 3, 4, 4, 6, 0).has(0, 3, 5, 40, 1, 1).grant("f0 life;c0 life", 1);
        y.has(1, 1, 4, 4, 2, 0).has(1, 1, 5, 40, 4, 1).has(1, 3, 5, 40, 0, NOT);
    }

    private static void endsAfterYears() {
        says("a number: so many YEARS behind that in which it BEGAN, or as life does, if that is earlier");
        Asked x = asked("person(60, -1)", "person(20, 0)", "person(10, 0)", "maybe(1, 0, 5)", "maybe(1, 2, 3)", "maybe(2, 1, 4)");
        x.grant("p0 1y;p1 ever", 0).has(0, 0, 0, 0, 1, 0).has(0, 0, 1, 40, 2, 1);
        x.grant("p0 0y;p1 ever", 1).has(1, 0, 0, 40, 2, 1).due("began(1, 0, 0)", 0);
        x.grant("p0 40y;p1 ever", 2).has(2, 0, 39, 39, 1, 0).has(2, 0, 40, 40, 2, 1).has(2, 1, 4, 4, 1, 0).has(2, 1, 5, 40, 2, 1);
        x.grant("p0 41y;p1 ever", 3).has(3, 0, 0, 40, 1, 0).grant("p0 5y;p1 ever", 4).has(4, 1, 4, 4, 1, 0).has(4, 1, 5, 5, 2, 1);
        x.has(4, 0, 4, 4, 1, 0).has(4, 0, 5, 5, 2, 1);
        x.grant("p1 9y if w;c0 6y", 5).has(5, 6, 4, 12, 2, 0).has(5, 6, 13, 18, 2, 1).has(5, 6, 19, 40, 0, NOT).has(5, 4, 13, 18, 6, 1);
        Asked y = asked("person(60, -1)", "person(20, 0)", "person(10, 0)", "maybe(1, 1, 3)", "maybe(1, 2, 5)", "maybe(1, 2, 6)");
        y.grant("c0 5y;p0 ever", 0).has(0, 1, 0, 2, 6, 0).has(0, 1, 3, 4, 4, 0).has(0, 1, 5, 40, 1, 1).has(0, 3, 3, 4, 4, 0);
        y.grant("c0 6y;p0 ever", 1).has(1, 3, 3, 4, 4, 0).has(1, 3, 5, 40, 1, 1).has(1, 5, 5, 5, 4, 0).has(1, 5, 6, 40, 1, 1);
        y.grant("c0 99y;p0 ever", 2).has(2, 0, 0, 40, 6, 0).has(2, 1, 3, 40, 4, 0).has(2, 3, 5, 40, 1, 1);
    }

    private static void endsNever() {
        says("ever: never (those that have it stay so, dead or not)");
        Asked x = asked("person(60, -1)", "person(20, 0)", "person(10, 0)", "maybe(1, 1, 3)", "maybe(1, 2, 4)", "maybe(3, 0, 9)");
        x.grant("p1 ever;p0 ever", 0).has(0, 3, 0, 40, 2, 0).grant("c0 ever;p0 ever", 1).has(1, 3, 0, 40, 6, 0);
        x.grant("f0 ever;>d0:p0 2y;p0 ever", 2).has(2, 7, 0, 8, 2, 0).has(2, 7, 9, 10, 1, 1).has(2, 7, 11, 40, 1, 2).has(2, 3, 9, 40, 2, 0);
        x.due("share(1, 1, 3, 40)", 2).due("share(1, 2, 3, 40)", 2).due("holders(1, 1)", 6).due("began(1, 1, 3)", NOT);
        x.grant("p1 ever if w;p0 ever", 3).has(3, 3, 2, 2, 0, NOT).has(3, 3, 3, 40, 1, 1);
    }

    private static void failsOfPerson() {
        says("It FAILS, if it has no TAKERS ahead of having BEGUN, and: p: the PERSON is not ALIVE");
        Asked x = asked("person(60, -1)", "person(20, 0)", "maybe(1, 0, 5)", "maybe(2, 0, 5)", "maybe(1, 1, 40)");
        x.grant("p0 life if w;p1 ever", 0).has(0, 0, 0, 40, 0, NOT).has(0, 1, 4, 4, 0, NOT).has(0, 1, 5, 40, 2, 1).has(0, 2, 5, 40, 1, 0);
        x.has(0, 3, 4, 4, 0, NOT).has(0, 3, 5, 40, 2, 1).due("began(0, 0, 3)", NOT);
        x.grant("p2 life;p7 ever;p1 life", 1).has(1, 0, 0, 40, 2, 2).has(1, 4, 40, 40, 0, NOT);
        x.grant("p1 life if d0;p0 life", 2).has(2, 4, 39, 39, 0, NOT).has(2, 4, 40, 40, 1, 1).has(2, 5, 40, 40, 0, NOT);
    }

    private static void failsOfChildren() {
        says("f, c: the one whose children they are is not ALIVE, and none of its children is ALIVE.");
        for (String who : new String[] {"f", "c"}) {
            Asked x = asked("person(60, -1)", "person(50, -1)", "maybe(1, 0, 9)", "maybe(0, 0, 4)", "maybe(1, 9, 12)", "maybe(1, 9, 6)");
            x.grant(who + "0 life if w;p1 ever", 0).has(0, 0, 0, 40, 0, NOT).has(0, 1, 8, 8, 0, NOT).has(0, 1, 9, 40, 2, 1);
            x.has(0, 3, 0, 40, 0, NOT).has(0, 7, 11, 11, 0, NOT).has(0, 7, 12, 40, 2, 1).has(0, 6, 12, 40, 0, NOT);
            x.has(0, 11, 8, 8, 0, NOT).has(0, 11, 9, 40, 2, 1).has(0, 10, 6, 40, 0, NOT).has(0, 14, 6, 40, 0, NOT);
            x.grant(who + "7 life;p1 ever", 1).has(1, 0, 0, 40, 2, 1);
            Asked y = asked("person(60, -1)", "person(50, -1)", "person(20, 0)", "maybe(1, 0, 9)", "maybe(1, 2, 15)", "maybe(2, 2, 15)");
            y.grant(who + "0 life if w;p1 ever", 0).has(0, 1, 9, 40, 0, NOT).has(0, 3, 14, 14, 0, NOT).has(0, 3, 15, 40, 2, 1);
            y.has(0, 2, 15, 40, 0, NOT).has(0, 4, 15, 40, 4, 0).has(0, 5, 15, 40, 4, 0).has(0, 7, 15, 40, 2, 1);
        }
    }

    private static void theNextAtOnce() {
        says("As it ENDS or FAILS, the next CLAUSE that is no SHIFT RUNS, at once in that YEAR (and so on)");
        Asked x = asked("person(60, -1)", "person(20, 0)", "maybe(1, 0, 5)", "maybe(3, 0, 40)");
        x.grant("p0 0y;p7 life;f7 ever;c1 0y if w;p0 0y;p1 life", 0).due("began(0, 0, 0)", 0).due("began(0, 1, 0)", NOT);
        x.due("began(0, 3, 0)", NOT).due("began(0, 5, 0)", NOT).has(0, 0, 0, 40, 0, NOT);
        x.grant("p0 0y;p7 life;f7 ever;p1 0y;p0 0y;p1 life", 1).has(1, 0, 0, 40, 2, 5).due("began(1, 3, 0)", 0).due("began(1, 4, 0)", 0);
        x.grant("p0 life;p0 life;p0 9y;p0 ever;f0 0y;f0 life", 2).has(2, 1, 4, 4, 1, 0).has(2, 1, 5, 40, 2, 5).due("began(2, 4, 1)", 5);
        x.due("began(2, 3, 1)", NOT).grant("p0 5y;>d0:p0 ever;>w:p0 ever;p1 3y;>d1:p0 ever;p0 life", 3).has(3, 0, 4, 4, 1, 0);
        x.has(3, 0, 5, 7, 2, 3).has(3, 0, 8, 40, 1, 5).due("began(3, 1, 0)", NOT).due("began(3, 2, 0)", NOT).due("began(3, 1, 2)", NOT);
        x.grant("p0 40y;p1 0y;p1 life", 4).has(4, 0, 39, 39, 1, 0).has(4, 0, 40, 40, 2, 2).due("began(4, 1, 0)", 40);
    }

    private static void backForGood() {
        says("without one the field is BACK for good (SHIFTS behind may RUN still)");
        Asked x = asked("person(60, -1)", "person(20, 0)", "maybe(3, 0, 9)", "maybe(3, 1, 1)", "maybe(3, 0, 40)");
        x.grant("p0 3y", 0).has(0, 7, 2, 2, 1, 0).has(0, 7, 3, 40, 0, NOT);
        x.grant("p0 3y;>d0:p1 life", 1).has(1, 0, 3, 40, 0, NOT).has(1, 1, 3, 8, 0, NOT).has(1, 1, 9, 40, 2, 1).has(1, 4, 40, 40, 2, 1);
        x.grant("p0 3y;>d0:p1 life;p1 3y", 2).has(2, 1, 3, 5, 2, 2).has(2, 1, 6, 40, 0, NOT);
        x.grant("p0 3y;>d0:p1 2y;>d1:p0 4y;p1 5y", 3).has(3, 1, 3, 7, 2, 3).has(3, 1, 8, 40, 0, NOT).has(3, 2, 1, 4, 1, 2);
        x.has(3, 2, 5, 9, 2, 3).has(3, 2, 10, 40, 0, NOT);
        x.grant("p7 life;>d1:p1 2y;>d0:p0 4y", 4).has(4, 3, 0, 0, 0, NOT).has(4, 3, 1, 2, 2, 1).has(4, 3, 3, 8, 0, NOT);
        x.has(4, 3, 9, 12, 1, 2).has(4, 3, 13, 40, 0, NOT);
    }

    private static void has() {
        says("HAS in a COURSE and YEAR: PERSONS (bits) that have it, and by which CLAUSE.");
        asked("person(60, -1)").grant("p0 1y;p0 1y", 0).has(0, 0, 0, 0, 1, 0).has(0, 0, 1, 1, 1, 1).has(0, 0, 2, 40, 0, NOT);
        says("HAS: what 0 PERSONS as bits (0: it is BACK), 1 by which CLAUSE (-5: BACK). NONE; BAD.");
        Asked x = asked("person(60, -1)", "maybe(0, 0, 1)", "maybe(0, 0, 1)", "maybe(0, 0, 1)", "maybe(0, 0, 1)", "maybe(0, 0, 1)");
        x.does("maybe(0, 0, 1)").grant("p0 1y;c0 9y", 0).has(0, 63, 0, 0, 1, 0).has(0, 63, 1, 9, 16128, 1).has(0, 63, 10, 10, 0, NOT);
        x.has(0, 32, 1, 1, 1 << 13, 1).grant("p7 life;p6 life;p5 life;p4 life;p3 life;p0 life", 1).has(1, 63, 0, 40, 1, 5);
    }

    private static void began() {
        says("BEGAN: the YEAR in which a CLAUSE BEGAN first in a COURSE.");
        Asked x = asked("person(60, -1)", "maybe(3, 0, 40)", "maybe(3, 0, 1)");
        x.grant("p0 0y;p0 39y;p0 1y;p0 0y;>d0:p0 1y", 0).due("began(0, 0, 0)", 0).due("began(0, 1, 0)", 0).due("began(0, 2, 0)", 39);
        x.due("began(0, 3, 0)", 40).due("began(0, 4, 0)", NOT).due("began(0, 4, 1)", 40).due("began(0, 3, 1)", NOT);
        x.due("began(0, 4, 2)", 1).due("began(0, 2, 2)", NOT).due("began(0, 1, 2)", 0);
        says("BEGAN; -5: it did not. NONE; BAD.");
        x.due("began(0, 5, 0)", NONE).due("began(0, -1, 0)", NONE).due("began(1, 0, 0)", NONE).due("began(-1, 0, 0)", NONE);
        x.due("began(0, 0, 4)", BAD).due("began(0, 0, -1)", BAD).due("began(0, 5, 4)", NONE).due("began(0, 4, 3)", 1);
    }

    private static void sure() {
        says("SURE of a CLAUSE: in all COURSES of all MAYBES it BEGINS; MAY: in some; NEVER: in none");
        Asked most = asked("person(60, -1)", "maybe(1, 0, 40)", "maybe(2, 0, 40)").grant("p0 40y;p0 life;p0 9y if w", 0);
        most.due("sure(0, 0, 0)", 2).due("sure(0, 1, 0)", 1).due("sure(0, 1, 2)", 2).due("sure(0, 2, 0)", 0).due("sure(0, 2, 2)", 0);
        says("Of a CLAUSE: what 0: 2 SURE, 1 MAY, 0 NEVER; 1 SHOWN (-5: NEVER), 2 in how many COURSES it BEGINS. NONE.");
        Asked x = asked("person(60, -1)").grant("p0 life;p0 ever", 0);
        x.due("sure(0, 0, 0)", 2).due("sure(0, 0, 1)", 0).due("sure(0, 0, 2)", 1);
        x.due("sure(0, 1, 0)", 0).due("sure(0, 1, 1)", NOT).due("sure(0, 1, 2)", 0);
        x.does("maybe(1, 0, 40)", "maybe(3, 0, 40)", "maybe(3, 1, 40)", "maybe(3, 2, 40)", "maybe(3, 3, 40)", "maybe(1, 0, 3)");
        x.due("sure(0, 0, 0)", 2).due("sure(0, 0, 2)", 64).due("sure(0, 0, 1)", 0).due("sure(0, 1, 2)", 0);
        x.grant("p0 ever;>d0:p0 ever;>d1:p0 ever", 1).due("sure(1, 1, 0)", 1).due("sure(1, 1, 2)", 8).due("sure(1, 2, 2)", 4);
        x.due("sure(1, 2, 1)", 4).due("sure(1, 1, 1)", 2).due("sure(1, 2, 0)", 1);
        Asked but = asked("person(60, -1)", "maybe(1, 0, 5)", "maybe(2, 0, 5)", "maybe(2, 0, 6)", "maybe(2, 0, 7)", "maybe(2, 0, 8)");
        but.does("maybe(2, 0, 9)").grant("p0 9y if w;p0 ever if d0", 0).due("sure(0, 0, 2)", 31).due("sure(0, 0, 0)", 1).due("sure(0, 0, 1)", 2);
        but.due("sure(0, 1, 2)", 0).due("sure(0, 1, 0)", 0);
        but.grant("p0 ever if w;p0 life", 1).due("sure(1, 0, 2)", 31);
        Asked only = asked("person(10, -1)", "maybe(3, 0, 5)", "maybe(1, 0, 4)").grant("p0 life;>d0:p0 life;p7 life", 0);
        only.due("sure(0, 1, 2)", 1).due("sure(0, 1, 0)", 1).due("sure(0, 1, 1)", 1).due("sure(0, 0, 0)", 2).due("sure(0, 2, 0)", 0);
        only.grant("p0 40y;p0 life", 1).due("sure(1, 1, 2)", 2).due("sure(1, 1, 0)", 1).due("sure(1, 1, 1)", 0);
        Asked all = asked("person(10, -1)", "maybe(2, 0, 5)", "maybe(2, 0, 6)", "maybe(2, 0, 7)", "maybe(2, 0, 8)", "maybe(2, 0, 9)");
        all.does("maybe(2, 0, 10)").grant("p0 life if w;p0 life", 0).due("sure(0, 0, 2)", 63).due("sure(0, 0, 0)", 1);
        Asked one = asked("person(10, -1)", "maybe(2, 0, 5)", "maybe(3, 0, 6)", "maybe(3, 1, 7)", "maybe(3, 2, 8)", "maybe(3, 3, 9)");
        one.does("maybe(3, 3, 5)");
        one.grant("p0 ever;>d3:p0 ever;>d2:p0 ever;>d1:p0 ever;>d0:p0 ever if w", 0).due("sure(0, 4, 2)", 16);
        one.grant("p0 ever;>d0:p0 ever if w;>d1:p0 ever;>d2:p0 ever;>d3:p0 ever", 1).due("sure(1, 4, 2)", 48).due("sure(1, 4, 1)", 16);
    }

    private static void shown() {
        says("SHOWN by the COURSE of the fewest MAYBES in which it BEGINS (of several the least as bits).");
        Asked x = asked("person(60, -1)", "maybe(0, 0, 3)", "maybe(2, 8, 4)", "maybe(3, 0, 5)", "maybe(2, 8, 9)", "maybe(2, 0, 3)");
        x.does("maybe(3, 1, 7)");
        x.grant("f0 life if w", 0).due("sure(0, 0, 1)", 3).grant("f0 life if d0", 1).due("sure(1, 0, 1)", 5);
        x.grant("f0 ever if w;>d0:c0 ever if w", 2).due("sure(2, 1, 1)", 7).due("sure(2, 1, 2)", 12);
        x.grant("p0 ever;>d0:p0 ever;>d1:p0 ever", 3).due("sure(3, 2, 1)", 32).due("sure(3, 1, 1)", 4);
        x.grant("c0 ever if d1;>d0:p0 ever if w", 4).due("sure(4, 1, 1)", 4 + 16).due("sure(4, 0, 1)", 1 + 32);
        Asked y = asked("person(60, -1)", "maybe(0, 0, 3)", "maybe(2, 8, 4)", "maybe(2, 0, 9)", "maybe(2, 8, 9)", "maybe(0, 0, 9)");
        y.grant("f0 ever if w", 0).due("sure(0, 0, 1)", 3).grant("p0 ever if w", 1).due("sure(1, 0, 1)", 4);
        y.grant("f0 0y;p0 ever if w", 2).due("sure(2, 1, 1)", 5).does("maybe(3, 3, 39)").grant("p0 ever;>d3:p0 ever", 3).due("sure(3, 1, 1)", 32);
    }

    private static void fewestAheadOfLeast() {
        says("SHOWN by the COURSE of the fewest MAYBES in which it BEGINS (of several the least as bits).");
        Asked x = asked("person(50, -1)", "person(20, 0)", "maybe(0, 0, 3)", "maybe(2, 8, 9)", "maybe(2, 1, 9)", "maybe(2, 1, 8)");
        x.grant("f0 life if w", 0).due("sure(0, 0, 1)", 4).due("sure(0, 0, 2)", 12 + 1);
        Asked y = asked("person(50, -1)", "maybe(3, 0, 5)", "maybe(2, 0, 6)", "maybe(3, 1, 7)", "maybe(3, 2, 5)", "maybe(3, 3, 9)");
        y.does("maybe(3, 3, 40)").grant("p0 ever;>d3:p0 ever", 0).due("sure(0, 1, 1)", 16).grant("p0 ever;>d0:p0 ever if w;>d3:p0 life if d1", 1);
        y.due("sure(1, 2, 1)", 20).due("sure(1, 1, 1)", 3).due("sure(1, 0, 1)", 0);
    }

    private static void holders() {
        says("HOLDERS that MAY: all PERSONS that have it in some COURSE and YEAR; that surely do: in each COURSE in some YEAR.");
        Asked x = asked("person(60, -1)", "person(50, -1)", "person(40, -1)", "maybe(1, 0, 40)", "maybe(0, 1, 40)");
        x.grant("p0 life;p1 life", 0).due("holders(0, 0)", 3).due("holders(0, 1)", 1);
        x.grant("p0 1y;p1 39y;p2 life", 1).due("holders(1, 0)", 7).due("holders(1, 1)", 7);
        x.grant("p0 0y;p1 40y;f1 life", 2).due("holders(2, 0)", 2 + 512).due("holders(2, 1)", 2);
        x.grant("p0 life if w", 3).due("holders(3, 0)", 0).due("holders(3, 1)", 0);
        x.does("maybe(2, 0, 39)").due("holders(3, 0)", 1).due("holders(3, 1)", 0).due("holders(0, 0)", 3);
        Asked y = asked("person(60, -1)", "person(50, -1)", "maybe(1, 0, 5)");
        y.grant("p0 9y;p1 9y", 0).due("holders(0, 0)", 3).due("holders(0, 1)", 3);
        Asked none = asked("person(60, -1)", "person(50, -1)", "maybe(1, 1, 3)", "maybe(1, 0, 3)").grant("p0 4y;p1 9y", 0);
        none.due("holders(0, 0)", 3).due("holders(0, 1)", 1).grant("p0 3y;p1 9y", 1).due("holders(1, 1)", 1);
        Asked first = asked("person(60, -1)", "person(50, -1)", "maybe(1, 0, 4)", "maybe(3, 0, 4)").grant("p0 4y;p0 5y;p1 life", 0);
        first.due("holders(0, 0)", 3).due("holders(0, 1)", 3).grant("p0 4y;>d0:p7 life;p0 9y if a64;p1 0y", 1).due("holders(1, 0)", 1);
        first.grant("p0 life;>d0:p1 life", 2).due("holders(2, 0)", 3).due("holders(2, 1)", 1);
        Asked last = asked("person(60, -1)", "person(50, -1)", "maybe(1, 1, 1)").grant("p0 39y;p1 9y", 0).due("holders(0, 0)", 3);
        last.due("holders(0, 1)", 1).grant("p0 1y;p1 9y", 1).due("holders(1, 0)", 3).due("holders(1, 1)", 1);
        says("HOLDERS, as bits: what 0 that MAY, 1 that surely do. NONE.");
        y.due("holders(0, 2)", NONE).due("holders(0, -1)", NONE).due("holders(1, 0)", NONE).due("holders(-1, 1)", NONE);
        Asked all = asked("person(60, -1)");
        for (int p = 1; p < 8; p++) {
            all.does("person(" + p + ", 0)");
        }
        for (int m = 0; m < 6; m++) {
            all.does("maybe(0, 0, " + (m + 1) + ")");
        }
        all.grant("p0 9y;c0 life", 0).due("holders(0, 0)", 16383).due("holders(0, 1)", 255);
    }

    private static void share() {
        says("SHARE in a COURSE and YEAR: of one that has it 1 of how many.");
        Asked x = asked("person(60, -1)");
        for (int p = 1; p < 8; p++) {
            x.does("person(" + p + ", 0)");
        }
        for (int m = 0; m < 6; m++) {
            x.does("maybe(0, 0, 3)");
        }
        x.grant("p0 3y;c0 2y;p0 life", 0).due("share(0, 0, 63, 2)", 1).due("share(0, 1, 63, 2)", 0).due("share(0, 0, 63, 3)", 0);
        for (int p = 1; p < 14; p++) {
            x.due("share(0, " + p + ", 63, 3)", 13).due("share(0, " + p + ", 0, 4)", p < 8 ? 7 : 0).due("share(0, " + p + ", 63, 5)", 0);
        }
        x.due("share(0, 0, 63, 40)", 1).due("share(0, 13, 32, 3)", 8).due("share(0, 12, 32, 3)", 0);
        says("SHARE of a PERSON (0 .. 13): 1 of how many (0: it does not have it). NONE; BAD.");
        x.due("share(0, -1, 0, 0)", NONE).due("share(0, 14, 0, 0)", NONE).due("share(1, 0, 0, 0)", NONE).due("share(-1, 0, 0, 0)", NONE);
        x.due("share(0, 14, 64, 0)", NONE).due("share(0, 0, 64, 0)", BAD).due("share(0, 0, 0, 41)", BAD).due("share(0, 0, 0, -1)", BAD);
        Asked few = asked("person(60, -1)").grant("p7 ever;p0 ever", 0).due("share(0, 7, 0, 0)", 0).due("share(0, 13, 0, 0)", 0);
        few.due("share(0, 0, 0, 40)", 1);
    }

    private static void judged() {
        says("JUDGED by the ROW; -5. NONE; BAD.");
        asked().grant("p0 life", 0).due("judged(0, 0)", NOT).due("judged(0, 1)", BAD).due("judged(1, 1)", NONE).does("row(1)").due("judged(0, 0)", 0);
        says("JUDGED: holders told by a ROW (for YEARS 0, 1, .. a set of PERSONS as bits each): the first YEAR in which it is wrong in a COURSE (-5: none of those told).");
        Asked x = asked("person(60, -1)", "person(50, -1)", "maybe(1, 0, 40)", "maybe(1, 0, 1)");
        x.grant("p0 life;p1 life", 0).due("judged(0, 0)", NOT);
        for (int year = 0; year < 40; year++) {
            x.does("row(1)");
        }
        x.due("judged(0, 0)", NOT).due("judged(0, 1)", NOT).due("judged(0, 2)", 1).due("judged(0, 3)", 1).does("row(2)");
        x.due("judged(0, 0)", 40).due("judged(0, 1)", NOT).due("judged(0, 2)", 1).due("row(2)", FULL).due("judged(0, 1)", NOT);
        x.due("row(-1)", 0).due("judged(0, 2)", NOT).does("row(2)").due("judged(0, 0)", 0).due("judged(0, 2)", 0);
        x.due("row(-1)", 0).does("row(3)").due("judged(0, 0)", 0).due("row(-1)", 0).does("row(0)").due("judged(0, 0)", 0);
        x.due("row(-1)", 0).does("row(1)", "row(2)", "row(0)").due("judged(0, 2)", 2).due("judged(0, 0)", 1);
        Asked back = asked().grant("p0 life", 0).does("row(0)", "row(0)").due("judged(0, 0)", NOT).does("row(16383)").due("judged(0, 0)", 2);
        back.due("judged(0, 1)", BAD).due("judged(0, -1)", BAD).due("judged(1, 1)", NONE).due("judged(-1, 0)", NONE);
    }

    private static void row() {
        says("A set of PERSONS (0 .. 16383) comes to the ROW: how many (41 at most; -1: it is empty then, 0). BAD; FULL.");
        Asked x = asked();
        for (String set : new String[] {"-2", "16384", "MIN", "MAX"}) {
            x.due("row(" + set + ")", BAD);
        }
        x.due("count(3)", 0).due("row(-1)", 0).due("row(0)", 1).due("row(16383)", 2).due("row(-2)", BAD).due("row(16384)", BAD);
        x.due("count(3)", 2);
        for (int size = 3; size <= 41; size++) {
            x.due("row(" + size + ")", size).due("count(3)", size);
        }
        x.due("row(0)", FULL).due("row(16383)", FULL).due("row(16384)", BAD).due("row(-2)", BAD).due("count(3)", 41);
        x.due("row(-1)", 0).due("count(3)", 0).due("row(-1)", 0).due("row(16383)", 1);
    }
}
