import java.io.IOException;

/** Promises 15 to 19, sentence by sentence: just too late, just not, the least and the greatest n and change. */
public final class LateEdgesTest extends Edges {
    public static void main(String[] args) throws IOException {
        begin("LateEdgesTest");
        livesAreOfTheFirstEight();
        moreThanN();
        theLastOfLives();
        allHavingDied();
        shownLikewise();
        shownByTheFewest();
        late();
        measure();
        measureOfSeveral();
        seeYears();
        seeInAllOrInNone();
        see();
        struck();
        struckLeavesTheWords();
        struckTogether();
        struckNotTheFirst();
        strike();
        strikeIsFull();
        mendIsLeast();
        mendGoesFiveFar();
        mendStays();
        mendOfAllClauses();
        mend();
        checks.end();
    }

    /** PERSON 0 has a child (PERSON 8) in a YEAR and dies in another, in one YEAR the birth first. */
    private static Asked line(int birth, int death) {
        return asked("person(20, -1)", "maybe(0, 0, " + birth + ")", "maybe(1, 0, " + death + ")");
    }

    private static void livesAreOfTheFirstEight() {
        says("LIVES: PERSONS of the first 8 that are there.");
        Asked x = line(1, 5).does("maybe(1, 8, 30)").grant("p0 life;f0 life if a20", 0);
        x.due("late(0, 1, 15, 0)", 1).due("late(0, 1, 15, 1)", 3).due("measure(2)", 0).due("measure(3)", 0).due("measure(7)", 0);
        x.does("person(5, -1)").due("late(0, 1, 0, 0)", 0).due("measure(7)", NOT).does("maybe(1, 1, 7)");
        x.due("late(0, 1, 13, 1)", 11).due("late(0, 1, 14, 0)", 0).due("measure(10)", 1).due("measure(14)", 1);
        Asked none = asked("maybe(3, 0, 40)").grant("p0 life;>d0:p0 life", 0);
        none.due("measure(0)", NOT).due("measure(1)", NOT).due("late(0, 0, 0, 0)", 0).due("late(0, 1, 0, 0)", 0).due("late(0, 1, 0, 1)", NOT);
        none.due("strike(0, 0)", STATE).due("see(0, 1, 1, 0)", 0);
        Asked eight = asked();
        for (int p = 0; p < 8; p++) {
            eight.does("person(20, -1)");
        }
        for (int p = 0; p < 6; p++) {
            eight.does("maybe(1, " + p + ", 3)");
        }
        eight.due("measure(63)", NOT).grant("p0 9y;p6 life", 0).due("late(0, 1, 0, 0)", 0);
    }

    private static void moreThanN() {
        says("LATE by n (0 .. 40): a CLAUSE BEGINS in some COURSE in a YEAR that is more than n behind that in which the last of LIVES died in it (all having died)");
        for (int behind = 0; behind <= 39; behind++) {
            Asked x = line(1, 1).grant("p0 life;f0 life if a" + behind, 0);
            x.due("late(0, 1, " + behind + ", 0)", 0).due("late(0, 1, " + behind + ", 1)", NOT).due("late(0, 1, 40, 0)", 0);
            x.due("began(0, 1, 3)", 1 + behind);
            if (behind > 0) {
                x.due("late(0, 1, " + (behind - 1) + ", 0)", 1).due("late(0, 1, " + (behind - 1) + ", 1)", 3).due("late(0, 1, 0, 0)", 1);
            }
        }
        line(1, 1).grant("f0 life if a40", 0).due("late(0, 0, 0, 0)", 0).grant("f0 life if a39", 1).due("late(1, 0, 38, 0)", 1);
        line(39, 39).grant("f0 life if a1", 0).due("late(0, 0, 0, 1)", 3).due("late(0, 0, 1, 0)", 0);
        line(40, 40).grant("f0 life if a0", 0).due("began(0, 0, 3)", 40).due("late(0, 0, 0, 0)", 0);
        line(9, 20).grant("p0 0y;f0 life if a10", 0).due("began(0, 1, 3)", 19).due("late(0, 1, 0, 0)", 0);
        line(9, 20).grant("p0 0y;f0 0y if a12;f0 0y", 0).due("late(0, 1, 0, 0)", 1).due("late(0, 2, 0, 0)", 1).due("late(0, 2, 1, 0)", 0);
        Asked shift = line(9, 20).does("maybe(3, 0, 22)").grant("p0 life;p0 life;>d0:f0 life", 0);
        shift.due("late(0, 2, 1, 1)", 7).due("late(0, 2, 2, 0)", 0).due("late(0, 1, 0, 0)", 0).due("late(0, 0, 0, 0)", 0);
    }

    private static void theLastOfLives() {
        says("that in which the last of LIVES died in it (all having died)");
        Asked x = asked("person(20, -1)", "person(30, -1)", "maybe(0, 0, 4)", "maybe(1, 0, 5)", "maybe(1, 1, 9)", "maybe(1, 0, 12)");
        x.grant("p0 3y;f0 life if a16", 0).due("began(0, 1, 7)", 20).due("late(0, 1, 10, 1)", 7).due("late(0, 1, 11, 0)", 0);
        x.due("late(0, 1, 7, 1)", 7).due("measure(15)", 1).due("measure(13)", 0).due("measure(7)", 1);
        Asked y = asked("person(20, -1)", "person(30, -1)", "maybe(0, 0, 4)", "maybe(1, 0, 9)", "maybe(1, 1, 5)", "maybe(1, 1, 8)");
        y.grant("p0 3y;f0 life if a16", 0).due("late(0, 1, 10, 1)", 7).due("late(0, 1, 11, 0)", 0);
    }

    private static void allHavingDied() {
        says("(all having died)");
        Asked x = asked("person(20, -1)", "person(30, -1)", "maybe(0, 0, 4)", "maybe(1, 0, 5)").grant("p0 life;f0 life if a30", 0);
        x.due("late(0, 1, 0, 0)", 0).due("late(0, 1, 0, 1)", NOT).due("strike(0, 0)", STATE).due("mend(0, 0, 0)", 0).due("see(0, 1, 3, 0)", 0);
        x.does("maybe(1, 1, 35)").due("late(0, 1, 0, 0)", 0).does("maybe(1, 1, 33)").due("late(0, 1, 0, 1)", 11);
        line(4, 5).grant("p0 4y;f0 life if a3", 0).due("began(0, 1, 1)", 7).due("late(0, 1, 0, 1)", 3).due("see(0, 1, 1, 0)", 5);
    }

    private static void shownLikewise() {
        says("SHOWN likewise.");
        Asked x = line(1, 2).does("maybe(3, 0, 30)", "maybe(3, 1, 20)", "maybe(3, 1, 10)", "maybe(3, 2, 9)");
        x.grant("p0 life;f0 life if d1", 0).due("late(0, 1, 7, 1)", 11).due("late(0, 1, 0, 1)", 11).due("late(0, 1, 8, 1)", 11);
        x.due("late(0, 1, 17, 1)", 11).due("late(0, 1, 18, 1)", NOT).due("sure(0, 1, 1)", 11);
        x.grant("p0 life;f0 life if d2;>d0:f0 life", 1).due("late(1, 1, 6, 1)", 35).due("late(1, 2, 0, 1)", 7).due("late(1, 1, 7, 1)", NOT);
        x.grant("p0 0y;f0 life", 2).due("sure(2, 1, 1)", 1).due("late(2, 1, 0, 1)", NOT);
    }

    private static void shownByTheFewest() {
        says("SHOWN likewise.");
        Asked x = asked("person(50, -1)", "maybe(0, 0, 1)", "maybe(2, 8, 9)", "maybe(2, 8, 30)", "maybe(1, 0, 4)", "maybe(3, 0, 30)");
        x.grant("p0 life;f0 life if w", 0).due("late(0, 1, 4, 1)", 11).due("late(0, 1, 5, 1)", 13);
        x.grant("p0 0y;f0 9y if w;f0 life if d0", 1).due("late(1, 2, 0, 1)", 27).due("late(1, 1, 5, 1)", 13);
        Asked y = asked("person(50, -1)", "maybe(3, 0, 20)", "maybe(3, 1, 20)", "maybe(3, 2, 20)", "maybe(0, 0, 1)", "maybe(1, 0, 2)");
        y.grant("f0 ever if d0;>d1:p7 life;f0 life if d2", 0).due("late(0, 2, 0, 1)", 24 + 6).due("late(0, 0, 17, 1)", 25);
        Asked z = asked("person(50, -1)", "maybe(1, 0, 2)", "maybe(0, 0, 1)", "maybe(2, 9, 20)", "maybe(0, 0, 1)", "maybe(3, 0, 20)");
        z.grant("p0 9y;c0 life if w", 0).due("late(0, 1, 0, 1)", 7).grant("p0 9y;>d0:c0 ever", 1).due("late(1, 1, 0, 1)", 1 + 2 + 16);
        z.grant("p0 9y;c0 life if d0", 2).due("late(2, 1, 0, 1)", 19).due("sure(2, 1, 1)", 18);
    }

    private static void late() {
        says("LATE of a CLAUSE by n: what 0 whether it is (1, 0), 1 SHOWN (-5). NONE; BAD.");
        Asked x = line(1, 1).grant("p0 life;f0 life if a39", 0);
        x.due("late(0, 1, 38, 0)", 1).due("late(0, 1, 38, 1)", 3).due("late(0, 1, 39, 0)", 0).due("late(0, 1, 39, 1)", NOT);
        x.due("late(0, 1, 0, 0)", 1).due("late(0, 1, 40, 0)", 0).due("late(0, 0, 0, 0)", 0);
        for (String n : new String[] {"-1", "41", "MIN", "MAX"}) {
            x.due("late(0, 1, " + n + ", 0)", BAD).due("late(0, 1, " + n + ", 1)", BAD).due("late(0, 2, " + n + ", 1)", NONE);
        }
        for (String wrong : new String[] {"-1", "2", "MIN", "MAX"}) {
            x.due("late(0, 1, 0, " + wrong + ")", NONE).due("late(0, " + wrong + ", 0, 0)", NONE).due("late(" + wrong + ", 0, 0, 0)", NONE);
        }
        x.due("late(1, 0, 0, 0)", NONE).due("late(0, 0, 41, 2)", NONE);
    }

    private static void measure() {
        says("MEASURE: the PERSON of LIVES that dies last in a COURSE (of several the least; -5: not all die, or there are none).");
        Asked x = asked();
        x.due("measure(0)", NOT).does("person(20, -1)").due("measure(0)", NOT).does("maybe(1, 0, 1)", "maybe(1, 0, 40)");
        x.due("measure(0)", NOT).due("measure(1)", 0).due("measure(2)", 0).due("measure(3)", 0).does("person(20, -1)");
        x.due("measure(3)", NOT).does("maybe(1, 1, 39)").due("measure(5)", 1).due("measure(6)", 0).due("measure(7)", 1).due("measure(4)", NOT);
        Asked six = asked();
        for (int p = 0; p < 6; p++) {
            six.does("person(20, -1)", "maybe(1, " + p + ", " + (p == 4 ? 20 : 19 - p) + ")");
        }
        six.due("measure(63)", 4);
        for (int m = 0; m < 6; m++) {
            six.due("measure(" + (63 - (1 << m)) + ")", NOT);
        }
        six.does("person(20, -1)").due("measure(63)", NOT);
        says("MEASURE; -5. BAD.");
        six.due("measure(64)", BAD).due("measure(-1)", BAD).due("measure(MIN)", BAD).due("measure(MAX)", BAD);
    }

    private static void measureOfSeveral() {
        says("(of several the least; -5: not all die, or there are none)");
        Asked x = asked("person(20, -1)", "person(20, -1)", "person(20, -1)", "maybe(1, 2, 9)", "maybe(1, 1, 9)", "maybe(1, 0, 8)");
        x.due("measure(7)", 1).does("maybe(1, 0, 3)").due("measure(15)", 1).due("measure(11)", 1);
        Asked y = asked("person(20, -1)", "person(20, -1)", "maybe(1, 1, 9)", "maybe(1, 0, 9)").due("measure(3)", 0);
        y.does("person(20, -1)", "maybe(1, 2, 40)").due("measure(7)", 2);
    }

    private static void seeYears() {
        says("SEE of a CLAUSE in a COURSE by n: the least YEAR t (0 .. 40) such that of all COURSES that are like it in MAYBES of YEARS up to t the CLAUSE BEGINS so late in all, or in none.");
        asked("person(20, -1)").grant("p0 life", 0).due("see(0, 0, 0, 0)", 0).due("see(0, 0, 0, 40)", 0);
        Asked one = line(1, 1).grant("f0 life if a5", 0);
        one.due("see(0, 0, 3, 0)", 1).due("see(0, 0, 0, 0)", 1).due("see(0, 0, 1, 0)", 1).due("see(0, 0, 3, 4)", 1).due("see(0, 0, 3, 5)", 0);
        Asked last = line(1, 39).does("maybe(2, 8, 40)").grant("f0 life if w", 0);
        last.due("see(0, 0, 7, 0)", 40).due("see(0, 0, 3, 0)", 40).due("see(0, 0, 2, 0)", 1).due("see(0, 0, 5, 0)", 39).due("see(0, 0, 7, 1)", 0);
        for (int year = 3; year <= 40; year++) {
            Asked x = line(1, 2).does("maybe(3, 0, " + year + ")").grant("p0 life;f0 life if d0", 0);
            x.due("see(0, 1, 7, 0)", year).due("see(0, 1, 3, 0)", year).due("see(0, 1, 1, 0)", 2).due("see(0, 1, 6, 0)", 1);
        }
    }

    private static void seeInAllOrInNone() {
        says("the CLAUSE BEGINS so late in all, or in none.");
        Asked x = line(3, 6).does("maybe(3, 0, 10)", "maybe(3, 0, 20)", "maybe(3, 1, 30)").grant("p0 life;f0 life if d0", 0);
        x.due("see(0, 1, 31, 0)", 10).due("see(0, 1, 7, 0)", 10).due("see(0, 1, 27, 0)", 20).due("see(0, 1, 3, 0)", 20);
        x.due("see(0, 1, 2, 0)", 3).due("see(0, 1, 29, 0)", 6).due("see(0, 1, 0, 0)", 3);
        x.due("see(0, 1, 31, 3)", 10).due("see(0, 1, 31, 4)", 10).due("see(0, 1, 11, 4)", 20).due("see(0, 1, 7, 13)", 10);
        x.due("see(0, 1, 11, 13)", 20).due("see(0, 1, 11, 14)", 0).due("see(0, 0, 31, 0)", 0);
    }

    private static void see() {
        says("SEE. NONE; BAD.");
        Asked x = line(1, 1).grant("f0 life if a5", 0).due("see(0, 0, 3, 4)", 1).due("see(0, 0, 3, 40)", 0).due("see(0, 0, 0, 0)", 1);
        for (String wrong : new String[] {"-1", "1", "MIN", "MAX"}) {
            x.due("see(" + wrong + ", 0, 0, 0)", NONE).due("see(0, " + wrong + ", 0, 0)", NONE).due("see(0, " + wrong + ", 4, 41)", NONE);
        }
        for (String wrong : new String[] {"-1", "4", "MIN", "MAX"}) {
            x.due("see(0, 0, " + wrong + ", 0)", BAD);
        }
        for (String wrong : new String[] {"-1", "41", "MIN", "MAX"}) {
            x.due("see(0, 0, 0, " + wrong + ")", BAD);
        }
    }

    private static void struck() {
        says("STRUCK by n: a GRANT without the CLAUSES that are LATE by n (not the first one; SHIFTS, too).");
        String text = "p0 5y;f0 3y if a12;>d0:c0 4y if a2;p0 9y if w;>d1:f0 ever if a25;p7 life";
        Asked x = line(1, 4).does("maybe(3, 0, 15)", "maybe(3, 1, 6)", "maybe(3, 0, 5)").grant(text, 0);
        x.due("late(0, 1, 8, 1)", 3).due("late(0, 1, 9, 0)", 0).due("late(0, 2, 10, 1)", 7).due("late(0, 2, 11, 0)", 0);
        x.due("late(0, 4, 21, 1)", 11).due("late(0, 4, 22, 0)", 0).due("late(0, 3, 0, 0)", 0).due("late(0, 5, 0, 0)", 0);
        x.due("strike(0, 22)", STATE).due("count(2)", 1);
        x.due("strike(0, 21)", 1).due("told(1, -1)", 5).due("told(1, -2)", 6).due("told(1, 5)", 9).due("as(1, 4, 0)", 2);
        x.due("strike(0, 10)", 2).due("told(2, -1)", 4).due("told(2, -2)", 4).due("told(2, 1)", 3).due("told(2, 2)", 12).due("told(2, 3)", 9);
        x.due("strike(0, 8)", 3).due("told(3, -1)", 3).due("told(3, 1)", 9).due("as(3, 1, 0)", 4).due("as(3, 2, 0)", 2);
        x.due("told(0, -1)", 6).due("strike(3, 0)", STATE).due("strike(1, 10)", 4).due("same(2, 4)", NOT).due("told(4, -2)", 4);
        x.due("strike(1, 40)", STATE).due("count(2)", 5);
    }

    private static void struckLeavesTheWords() {
        says("STRUCK by n: a GRANT without the CLAUSES that are LATE by n");
        String text = "c0 5y if a0;f0 3y if a12;>d0:p0 life if w;>w:f0 9y;>a7:c0 ever if d3";
        Asked x = line(1, 4).does("maybe(3, 0, 3)", "maybe(2, 0, 2)", "maybe(3, 3, 2)").grant(text, 0);
        x.due("late(0, 1, 0, 0)", 1).due("strike(0, 0)", 1).grant("c0 5y if a0;>d0:p0 life if w;>w:f0 9y;>a7:c0 ever if d3", 2);
        x.due("told(1, -1)", 4).due("told(1, -2)", 4).due("told(1, 0)", 5).due("told(1, 1)", 0).due("told(1, 2)", 9).due("told(1, 3)", 7);
        x.due("as(1, 0, 0)", 1).due("as(1, 1, 0)", 6).due("as(1, 2, 0)", 3).due("as(1, 3, 0)", 6).due("same(1, 2)", NOT).due("same(0, 1)", 1);
        x.due("has(1, 12, 3, 1)", 1).due("has(1, 12, 2, 1)", NOT).due("has(1, 13, 2, 1)", 0).due("has(1, 13, 3, 0)", 1).due("has(1, 0, 40, 1)", NOT);
    }

    private static void struckTogether() {
        says("STRUCK by n: a GRANT without the CLAUSES that are LATE by n (not the first one; SHIFTS, too).");
        Asked x = line(1, 4).grant("p0 life;f0 2y if a10;f0 2y;f0 life;p0 life", 0).grant("f0 2y if a10;f0 2y;f0 2y", 1);
        x.due("sure(0, 1, 2)", 1).due("sure(0, 2, 2)", 1).due("strike(0, 0)", 2).due("told(2, -1)", 2).due("told(2, -2)", 0);
        x.due("strike(0, 7)", 3).due("told(3, -1)", 3).due("strike(0, 9)", 4).due("told(4, -1)", 4).due("strike(1, 0)", 5).due("told(5, -1)", 1);
        Asked y = line(1, 4).grant("p0 life;f0 2y if a10;f0 2y;f0 life;p0 life", 0).due("sure(0, 4, 2)", 0).due("late(0, 3, 10, 0)", 1);
        y.due("strike(0, 11)", STATE).due("strike(0, 10)", 1).due("told(1, -1)", 4).due("sure(1, 3, 0)", 0);
    }

    private static void struckNotTheFirst() {
        says("(not the first one; SHIFTS, too)");
        Asked x = line(1, 4).does("maybe(3, 0, 9)").grant("f0 life if a9", 0).grant("f0 4y if a9;f0 life", 1).grant("f0 4y if a9;>d0:f0 life", 2);
        x.due("late(0, 0, 5, 0)", 1).due("strike(0, 5)", STATE).due("late(1, 0, 5, 0)", 1).due("strike(1, 9)", 3).due("told(3, -1)", 1);
        x.due("told(3, 0)", 4).due("told(3, 1)", 9).due("late(3, 0, 5, 0)", 1).due("strike(3, 0)", STATE).due("strike(1, 10)", STATE);
        x.due("strike(2, 0)", 4).due("told(4, -1)", 1).due("strike(2, 4)", 5).due("told(5, -1)", 1).due("as(5, 0, 0)", 1).due("strike(2, 5)", STATE);
    }

    private static void strike() {
        says("STRUCK by n is a GRANT more: its number. NONE; BAD; STATE: nothing is struck; FULL.");
        Asked x = line(1, 1).grant("p0 life;f0 life if a39", 0);
        for (String wrong : new String[] {"-1", "1", "MIN", "MAX"}) {
            x.due("strike(" + wrong + ", 0)", NONE).due("strike(" + wrong + ", 41)", NONE);
        }
        for (String wrong : new String[] {"-1", "41", "MIN", "MAX"}) {
            x.due("strike(0, " + wrong + ")", BAD);
        }
        x.due("strike(0, 39)", STATE).due("strike(0, 40)", STATE).due("count(2)", 1);
        x.feed("p0 ").due("strike(0, 38)", 1).due("count(4)", 3).due("count(2)", 2).due("told(1, -1)", 1).due("told(0, -1)", 2);
        x.feed("5y").due("grant()", 2).due("told(2, 0)", 5).due("strike(0, 0)", 3);
    }

    private static void strikeIsFull() {
        says("STATE: nothing is struck; FULL.");
        Asked x = line(1, 1).grant("p0 life;f0 life if a39", 0);
        for (int g = 1; g < 6; g++) {
            x.due("strike(0, 38)", g).due("told(" + g + ", -1)", 1);
        }
        x.due("strike(0, 38)", FULL).due("strike(0, 39)", STATE).due("strike(5, 0)", STATE).due("strike(0, 41)", BAD).due("strike(6, 38)", NONE);
        x.due("count(2)", 6).due("told(0, -1)", 2).due("told(5, -1)", 1);
    }

    private static void mendIsLeast() {
        says("MEND by n of a NUMBER: its least change (1 .. 5, either way, less first; 0 .. 99 stays) with which no CLAUSE of the GRANT is LATE by n");
        // The CLAUSE BEGINS in the YEAR of that number, till 40; then never: so from n up to 40 it is LATE.
        for (int number = 1; number <= 40; number++) {
            Asked x = line(1, 1).grant("f0 life if a" + (number - 1) + ";p0 life", 0);
            for (int n = Math.max(0, number - 8); n <= Math.min(40, number + 1); n++) {
                int less = Math.max(0, number - 1 - n);
                int more = 41 - number;
                int want = less <= more ? -less : more;
                x.due("mend(0, 0, " + n + ")", Math.abs(want) <= 5 ? want : NO_MEND);
            }
            x.due("told(0, 0)", number - 1).due("told(0, -1)", 2).due("count(2)", 1);
        }
    }

    private static void mendGoesFiveFar() {
        says("(1 .. 5, either way, less first; 0 .. 99 stays)");
        Asked x = line(1, 2).grant("f0 life if a35;p0 life", 0).grant("f0 life if a34;p0 life", 1).grant("f0 life if a39;p0 life", 2);
        x.due("mend(0, 0, 28)", 5).due("mend(0, 0, 0)", 5).due("mend(0, 0, 29)", -5).due("mend(0, 0, 30)", -4).due("mend(0, 0, 33)", -1);
        x.due("mend(0, 0, 34)", 0).due("mend(1, 0, 27)", NO_MEND).due("mend(1, 0, 28)", -5).due("mend(1, 0, 0)", NO_MEND);
        x.due("mend(2, 0, 37)", -1).due("mend(2, 0, 36)", 1).due("mend(2, 0, 0)", 1).due("mend(2, 0, 38)", 0);
        x.grant("f0 38y;f0 life", 3).due("mend(3, 0, 0)", 2).due("mend(3, 0, 35)", -2).due("mend(3, 0, 34)", 2);
    }

    private static void mendStays() {
        says("0 .. 99 stays");
        Asked x = line(2, 2);
        for (int years = 4; years <= 6; years++) {
            x.grant("f0 " + years + "y;f0 life", years - 4);
        }
        x.due("mend(0, 0, 0)", -4).due("mend(1, 0, 0)", -5).due("mend(2, 0, 0)", NO_MEND).due("mend(2, 0, 1)", -5);
        x.grant("f0 0y;f0 1y;f0 life", 3).due("mend(3, 1, 0)", -1).due("mend(3, 0, 0)", NO_MEND).due("mend(3, 0, 1)", 0);
        Asked y = asked("person(90, -1)", "maybe(1, 0, 20)", "maybe(0, 0, 1)");
        y.grant("p0 1y if a94;f0 31y;f0 life", 0).due("mend(0, 1, 0)", 5).grant("p0 1y if a95;f0 31y;f0 life", 1).due("mend(1, 1, 0)", 4);
        y.grant("p0 1y if a95;f0 30y;f0 life", 2).due("mend(2, 1, 0)", NO_MEND).grant("p0 1y if a98;f0 31y;f0 life", 3).due("mend(3, 1, 0)", 1);
        y.grant("p0 1y if a99;f0 30y;f0 life", 4).due("mend(4, 1, 0)", NO_MEND).due("mend(4, 2, 0)", 1).due("mend(4, 0, 0)", 1);
    }

    private static void mendOfAllClauses() {
        says("with which no CLAUSE of the GRANT is LATE by n; 0: none is as it is; -100: none such.");
        Asked x = line(1, 4).does("maybe(3, 0, 9)").grant("p0 life;f0 2y if a6;f0 2y if a9;f0 life if a12", 0);
        x.due("mend(0, 1, 9)", 0).due("mend(0, 1, 8)", NO_MEND).due("mend(0, 4, 8)", -1).due("mend(0, 4, 7)", NO_MEND).due("mend(0, 2, 8)", NO_MEND);
        x.due("late(0, 3, 8, 0)", 1).due("late(0, 2, 6, 0)", 0).due("late(0, 2, 5, 0)", 1).due("mend(0, 0, 6)", NO_MEND).due("mend(0, 3, 6)", NO_MEND);
        x.grant("p0 life;>a7:p0 3y;>d0:f0 life", 1).due("late(1, 2, 4, 0)", 1).due("mend(1, 0, 4)", NO_MEND).due("mend(1, 1, 4)", NO_MEND);
        x.due("mend(1, 0, 5)", 0).grant("f0 life if a9;p0 life", 2).due("mend(2, 0, 5)", -1).due("mend(2, 0, 6)", 0);
    }

    private static void mend() {
        says("MEND of NUMBER i. NONE; BAD.");
        Asked x = line(1, 1).grant("p0 3y;f0 life if a9", 0).grant("p0 life", 1);
        for (String wrong : new String[] {"-1", "2", "MIN", "MAX"}) {
            x.due("mend(" + wrong + ", 0, 0)", NONE).due("mend(0, " + wrong + ", 0)", NONE).due("mend(0, " + wrong + ", 41)", NONE);
        }
        x.due("mend(0, -2, 0)", NONE).due("mend(1, 0, 0)", NONE).due("mend(1, 0, 41)", NONE);
        for (String wrong : new String[] {"-1", "41", "MIN", "MAX"}) {
            x.due("mend(0, 0, " + wrong + ")", BAD).due("mend(0, 1, " + wrong + ")", BAD);
        }
        x.due("mend(0, 1, 40)", 0).due("mend(0, 0, 40)", 0).due("mend(0, 1, 8)", -1).due("mend(0, 1, 0)", NO_MEND).due("count(2)", 2);
        x.due("told(0, 0)", 3).due("told(0, 1)", 9);
    }
}
