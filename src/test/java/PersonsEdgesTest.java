import java.io.IOException;

/** Promises 1 to 4 and the first of the terms, sentence by sentence: what is least, greatest, first beyond. */
public final class PersonsEdgesTest extends Edges {
    private static final String[] BEYOND_COURSES = {"-1", "64", "MIN", "MAX"};

    public static void main(String[] args) throws IOException {
        begin("PersonsEdgesTest");
        nobodyIsThere();
        eightPersons();
        ages();
        parents();
        noYoungerThanItsParent();
        aliveInYearZero();
        sixMaybes();
        yearsOfMaybes();
        theFirstAndTheLastYear();
        kinds();
        births();
        deathsAndWeddings();
        deeds();
        personsOfMaybes();
        courses();
        notBornByThen();
        itsParentDidNothing();
        comesLater();
        dead();
        byYearsThenByNumbers();
        alive();
        agesInYears();
        livesOfPersons();
        livesAskedAnew();
        livesRefused();
        manyCalls();
        checks.end();
    }

    private static Asked eight() {
        Asked x = asked();
        for (int p = 0; p < 8; p++) {
            x.does("person(" + (40 + p) + ", -1)");
        }
        return x;
    }

    private static void nobodyIsThere() {
        says("Nobody is there.");
        Asked x = asked();
        for (int what = 0; what <= 5; what++) {
            x.due("count(" + what + ")", 0);
        }
        for (int p = 0; p <= 13; p++) {
            x.due("life(" + p + ", 0, 0, 0)", 0).due("life(" + p + ", 0, 40, 1)", NOT);
        }
        x.due("measure(0)", NOT).due("measure(1)", BAD).due("person(0, 0)", NONE).due("maybe(1, 0, 1)", NONE);
        x.due("told(0, -1)", NONE).due("trace(0)", NONE).due("undo()", STATE).due("grant()", -10);
    }

    private static void eightPersons() {
        says("PERSONS are numbered from 0 on, 8 at most, as they come");
        Asked x = asked();
        for (int p = 0; p < 8; p++) {
            x.due("count(0)", p).due("person(" + (40 + p) + ", -1)", p);
        }
        x.due("person(48, -1)", FULL).due("person(0, 0)", FULL).due("count(0)", 8);
        for (int p = 0; p < 8; p++) {
            x.due("life(" + p + ", 0, 0, 1)", 40 + p);
        }
    }

    private static void ages() {
        says("A PERSON: its number. NONE: parent (-1: none); BAD: age; STATE: it is no younger than its PARENT; FULL.");
        asked().due("person(0, -1)", 0).due("person(90, -1)", 1).due("person(91, -1)", BAD).due("person(-1, 2)", NONE).due("person(91, 0)", BAD);
        says("an AGE in YEAR 0 (0 .. 90)");
        Asked x = asked();
        x.due("person(-1, -1)", BAD).due("person(91, -1)", BAD).due("person(MIN, -1)", BAD).due("person(MAX, -1)", BAD);
        x.due("count(0)", 0).due("person(0, -1)", 0).due("person(90, -1)", 1);
        x.due("life(0, 0, 0, 1)", 0).due("life(1, 0, 0, 1)", 90);
        x.due("person(-1, 1)", BAD).due("person(91, 1)", BAD).due("count(0)", 2);
    }

    private static void parents() {
        says("a PARENT (a lesser PERSON, or none)");
        Asked x = asked();
        x.due("person(0, 0)", NONE).due("person(0, -2)", NONE).due("person(50, -1)", 0);
        x.due("person(1, 1)", NONE).due("person(1, 2)", NONE).due("person(40, 0)", 1).due("person(1, 2)", NONE);
        x.due("person(30, 1)", 2).due("person(29, 0)", 3).due("person(1, 4)", NONE).due("person(1, 7)", NONE);
        x.due("person(1, MIN)", NONE).due("person(1, MAX)", NONE).due("person(1, -2)", NONE).due("count(0)", 4);
        x.does("maybe(0, 0, 1)").due("person(1, 8)", NONE).due("count(0)", 4);
        x.grant("c0 life", 0).grant("c1 life", 1).grant("c2 life", 2);
        x.due("has(0, 0, 0, 0)", 2 + 8).due("has(1, 0, 0, 0)", 4).due("has(2, 0, 0, 0)", 0);
        says("NONE: parent (-1: none)");
        Asked full = eight();
        full.due("person(1, 8)", NONE).due("person(1, 7)", FULL).due("person(1, -1)", FULL).due("person(1, -2)", NONE);
    }

    private static void noYoungerThanItsParent() {
        says("STATE: it is no younger than its PARENT");
        Asked x = asked("person(50, -1)");
        x.due("person(51, 0)", STATE).due("person(50, 0)", STATE).due("person(90, 0)", STATE).due("count(0)", 1);
        x.due("person(49, 0)", 1).due("person(49, 1)", STATE).due("person(48, 1)", 2).due("person(0, 2)", 3);
        x.due("person(0, 3)", STATE).due("person(90, -1)", 4).due("person(89, 4)", 5).due("person(90, 4)", STATE);
    }

    private static void aliveInYearZero() {
        says("all are alive in YEAR 0");
        Asked x = eight();
        for (int p = 0; p < 6; p++) {
            x.does("maybe(1, " + p + ", 1)");
        }
        for (int p = 0; p < 8; p++) {
            x.due("life(" + p + ", 0, 0, 0)", 1).due("life(" + p + ", 63, 0, 0)", 1);
            x.due("life(" + p + ", 63, 1, 0)", p < 6 ? 0 : 1);
        }
        for (int p = 8; p < 14; p++) {
            x.due("life(" + p + ", 63, 0, 0)", 0);
        }
    }

    private static void sixMaybes() {
        says("MAYBES are numbered from 0 on, 6 at most");
        Asked x = asked("person(50, -1)");
        for (int m = 0; m < 6; m++) {
            x.due("count(1)", m).due("maybe(" + m % 4 + ", 0, " + (m + 1) + ")", m);
        }
        for (int kind = 0; kind <= 3; kind++) {
            x.due("maybe(" + kind + ", 0, 1)", FULL);
        }
        x.due("count(1)", 6).due("measure(63)", 0).due("measure(64)", BAD);
    }

    private static void yearsOfMaybes() {
        says("A MAYBE: its number. NONE: kind, person (of 0 to 2; of 3 a DEED 0 .. 3); BAD: year (1 .. 40); FULL.");
        asked().due("maybe(3, 0, 1)", 0).due("maybe(3, 0, 40)", 1).due("maybe(3, 0, 41)", BAD).due("maybe(3, 4, 41)", NONE).due("maybe(3, 3, 0)", BAD);
        says("in a YEAR (1 .. 40)");
        Asked x = asked("person(50, -1)");
        for (int kind = 0; kind <= 3; kind++) {
            for (String year : new String[] {"0", "41", "-1", "MIN", "MAX"}) {
                x.due("maybe(" + kind + ", 0, " + year + ")", BAD);
            }
        }
        x.due("count(1)", 0);
        for (int kind = 0; kind < 3; kind++) {
            x.due("maybe(" + kind + ", 0, 1)", 2 * kind).due("maybe(" + kind + ", 0, 40)", 2 * kind + 1);
        }
        says("BAD: year (1 .. 40)");
        asked().due("maybe(3, 0, 1)", 0).due("maybe(3, 3, 40)", 1).due("maybe(3, 0, 0)", BAD).due("maybe(3, 0, 41)", BAD);
    }

    private static void theFirstAndTheLastYear() {
        says("YEARS are 0 .. 40.");
        Asked x = asked("person(50, -1)", "maybe(0, 0, 1)", "maybe(0, 0, 40)", "maybe(2, 0, 1)", "maybe(1, 0, 40)");
        x.due("life(8, 1, 0, 0)", 0).due("life(8, 1, 1, 0)", 1).due("life(8, 1, 40, 1)", 39);
        x.due("life(9, 2, 39, 0)", 0).due("life(9, 2, 40, 0)", 1).due("life(9, 2, 40, 1)", 0);
        x.due("life(0, 4, 0, 2)", 0).due("life(0, 4, 1, 2)", 1);
        x.due("life(0, 8, 39, 0)", 1).due("life(0, 8, 40, 0)", 0).due("measure(8)", 0);
        x.grant("p0 life", 0);
        for (String call : new String[] {"life(0, 0, Y, 0)", "has(0, 0, Y, 0)", "share(0, 0, 0, Y)", "both(0, 0, 0, Y)"}) {
            x.due(call.replace("Y", "0"), 1).due(call.replace("Y", "40"), 1);
            for (String year : new String[] {"-1", "41", "MIN", "MAX"}) {
                x.due(call.replace("Y", year), BAD);
            }
        }
    }

    private static void kinds() {
        says("NONE: kind, person (of 0 to 2; of 3 a DEED 0 .. 3)");
        Asked x = asked("person(50, -1)");
        for (String kind : new String[] {"-1", "4", "MIN", "MAX"}) {
            x.due("maybe(" + kind + ", 0, 1)", NONE).due("maybe(" + kind + ", 9, 0)", NONE);
        }
        for (int kind = 0; kind <= 2; kind++) {
            x.due("maybe(" + kind + ", -1, 1)", NONE).due("maybe(" + kind + ", 1, 1)", NONE);
            x.due("maybe(" + kind + ", MIN, 1)", NONE).due("maybe(" + kind + ", MAX, 1)", NONE);
        }
        x.due("maybe(3, -1, 1)", NONE).due("maybe(3, 4, 1)", NONE).due("maybe(3, MIN, 1)", NONE);
        x.due("maybe(3, MAX, 1)", NONE).due("maybe(3, 8, 1)", NONE).due("count(1)", 0);
        x.due("maybe(3, 0, 1)", 0).due("maybe(3, 3, 1)", 1).due("maybe(0, 0, 1)", 2).due("maybe(1, 0, 1)", 3);
    }

    private static void births() {
        says("0 a child of a PERSON is born (it is PERSON 8 and the MAYBE's number, of AGE 0 in that YEAR)");
        Asked x = asked("person(50, -1)", "maybe(0, 0, 7)", "maybe(3, 0, 7)", "maybe(3, 1, 7)", "maybe(2, 0, 7)");
        x.does("maybe(1, 0, 30)", "maybe(0, 0, 9)");
        x.due("life(8, 63, 6, 1)", NOT).due("life(8, 63, 7, 1)", 0).due("life(8, 63, 8, 1)", 1).due("life(8, 62, 7, 1)", NOT);
        x.due("life(13, 63, 8, 1)", NOT).due("life(13, 63, 9, 1)", 0).due("life(13, 31, 9, 1)", NOT);
        for (int p = 9; p < 13; p++) {
            x.due("life(" + p + ", 63, 40, 0)", 0).due("life(" + p + ", 63, 40, 1)", NOT);
        }
    }

    private static void deathsAndWeddings() {
        says("1 a PERSON dies; 2 a PERSON weds; 3 DEED k (0 .. 3) is done");
        Asked x = asked("person(50, -1)", "person(40, -1)", "maybe(1, 0, 1)", "maybe(2, 0, 1)", "maybe(1, 1, 40)", "maybe(2, 1, 40)");
        x.does("maybe(3, 0, 1)", "maybe(3, 3, 40)").grant("p0 ever;>d0:p1 ever;>d3:p0 ever", 0);
        x.due("life(0, 1, 0, 0)", 1).due("life(0, 1, 1, 0)", 0).due("life(0, 2, 0, 2)", 0).due("life(0, 2, 1, 2)", 1).due("life(0, 3, 1, 2)", 0);
        x.due("life(1, 4, 39, 0)", 1).due("life(1, 4, 40, 0)", 0).due("life(1, 8, 39, 2)", 0).due("life(1, 8, 40, 2)", 1).due("life(1, 12, 40, 2)", 0);
        x.due("began(0, 1, 16)", 1).due("began(0, 2, 16)", NOT).due("began(0, 2, 32)", 40).due("began(0, 1, 32)", NOT).due("life(0, 48, 40, 0)", 1);
    }

    private static void deeds() {
        says("3 DEED k (0 .. 3) is done");
        for (int deed = 0; deed <= 3; deed++) {
            Asked x = asked("person(50, -1)", "person(40, -1)", "maybe(3, " + deed + ", 5)");
            for (int k = 0; k <= 3; k++) {
                x.grant("p0 life;>d" + k + ":p1 life", k);
                x.due("began(" + k + ", 1, 1)", k == deed ? 5 : NOT).due("began(" + k + ", 1, 0)", NOT);
            }
        }
    }

    private static void personsOfMaybes() {
        says("A PERSON of a MAYBE is one of the first 8 that is there, or the child of a lesser MAYBE of KIND 0.");
        Asked nobody = asked();
        nobody.due("maybe(1, 0, 1)", NONE).due("maybe(1, 8, 1)", NONE).due("count(1)", 0);
        Asked x = asked("person(50, -1)", "person(49, -1)", "person(48, -1)");
        x.due("maybe(1, 3, 1)", NONE).due("maybe(1, 7, 1)", NONE).due("maybe(1, 2, 9)", 0).due("maybe(2, 8, 1)", NONE);
        x.due("maybe(0, 9, 1)", NONE).due("maybe(0, 2, 20)", 1).due("maybe(0, 10, 1)", NONE).due("maybe(0, 9, 21)", 2);
        x.due("maybe(2, 11, 1)", NONE).due("maybe(2, 8, 1)", NONE).due("maybe(2, 10, 1)", 3).due("maybe(2, 11, 1)", NONE);
        x.due("maybe(2, 9, 19)", 4).due("maybe(0, 12, 1)", NONE).due("maybe(0, 13, 1)", NONE).due("maybe(0, 0, 1)", 5);
        x.due("maybe(1, 13, 1)", FULL).due("maybe(1, 14, 1)", NONE).due("maybe(1, 12, 1)", NONE).due("maybe(1, 3, 1)", NONE);
        Asked all = eight();
        all.due("maybe(1, 8, 1)", NONE).due("maybe(1, 7, 1)", 0).due("life(7, 1, 1, 0)", 0);
    }

    private static void courses() {
        says("A COURSE is a set of MAYBES (bits) that come.");
        Asked x = eight();
        x.due("life(0, 0, 0, 0)", 1).due("life(0, 1, 0, 0)", BAD);
        for (int m = 0; m < 6; m++) {
            x.does("maybe(1, " + m + ", 3)");
            x.due("life(0, " + ((2 << m) - 1) + ", 0, 0)", 1).due("life(0, " + (2 << m) + ", 0, 0)", BAD);
        }
        for (int m = 0; m < 6; m++) {
            for (int p = 0; p < 8; p++) {
                x.due("life(" + p + ", " + (1 << m) + ", 3, 0)", m == p ? 0 : 1);
            }
        }
        says("BAD a number is not as told (a COURSE with bits of none such, YEARS not 0 .. 40)");
        x.grant("p0 life", 0);
        String[] calls = {
            "life(0, C, 0, 0)", "has(0, C, 0, 0)", "began(0, 0, C)", "share(0, 0, C, 0)", "judged(0, C)", "measure(C)",
            "see(0, 0, C, 0)", "both(0, 0, C, 0)", "clash(0, 0, C)",
        };
        for (String call : calls) {
            for (String course : BEYOND_COURSES) {
                x.due(call.replace("C", course), BAD);
            }
            checks.due(call + " of 63 is no refusal", x.call(call.replace("C", "63")) == BAD ? 1 : 0, 0);
        }
    }

    /** MAYBE 0: PERSON 8 is born; 1: its child, PERSON 9; 2: 8 weds; 3: 9 weds; 4: 9 dies; 5: its child, 13. */
    private static Asked line(String... years) {
        Asked x = asked("person(50, -1)");
        String[] maybes = {"0, 0", "0, 8", "2, 8", "2, 9", "1, 9", "0, 9"};
        for (int m = 0; m < 6; m++) {
            x.does("maybe(" + maybes[m] + ", " + years[m] + ")");
        }
        return x;
    }

    private static void notBornByThen() {
        says("One that comes does nothing, if its PERSON is not born by then (a child whose own MAYBE did not come, or did nothing, or comes later)");
        Asked x = line("5", "6", "7", "8", "10", "9");
        x.due("life(8, 63, 5, 0)", 1).due("life(9, 63, 6, 0)", 1).due("life(8, 63, 7, 2)", 1).due("life(9, 63, 8, 2)", 1);
        x.due("life(13, 63, 9, 0)", 1).due("life(9, 63, 10, 0)", 0);
        x.due("life(8, 62, 40, 1)", NOT).due("life(8, 62, 40, 2)", 0).due("life(9, 62, 40, 1)", NOT);
        x.due("life(9, 62, 40, 2)", 0).due("life(13, 62, 40, 1)", NOT);
        x.due("life(8, 61, 40, 0)", 1).due("life(9, 61, 40, 1)", NOT).due("life(9, 61, 40, 2)", 0);
        x.due("life(13, 61, 40, 1)", NOT).due("life(8, 61, 40, 2)", 1);
    }

    private static void itsParentDidNothing() {
        says("One that comes does nothing, if its PERSON is not born by then (a child whose own MAYBE did not come, or did nothing, or comes later)");
        Asked x = asked("person(50, -1)", "maybe(1, 0, 4)", "maybe(0, 0, 5)", "maybe(0, 9, 6)", "maybe(2, 9, 7)");
        x.does("maybe(2, 10, 8)", "maybe(0, 10, 9)");
        x.due("life(9, 63, 40, 1)", NOT).due("life(10, 63, 40, 1)", NOT).due("life(9, 63, 40, 2)", 0);
        x.due("life(10, 63, 40, 2)", 0).due("life(13, 63, 40, 1)", NOT);
        x.due("life(9, 62, 5, 1)", 0).due("life(10, 62, 6, 1)", 0).due("life(9, 62, 7, 2)", 1);
        x.due("life(10, 62, 8, 2)", 1).due("life(13, 62, 9, 1)", 0);
    }

    private static void comesLater() {
        says("One that comes does nothing, if its PERSON is not born by then (a child whose own MAYBE did not come, or did nothing, or comes later)");
        Asked later = line("10", "9", "9", "40", "40", "40");
        later.due("life(8, 63, 10, 0)", 1).due("life(8, 63, 40, 2)", 0).due("life(9, 63, 40, 1)", NOT);
        later.due("life(9, 63, 40, 2)", 0).due("life(13, 63, 40, 1)", NOT);
        Asked then = line("10", "10", "10", "10", "11", "10");
        then.due("life(8, 63, 10, 2)", 1).due("life(9, 63, 10, 1)", 0).due("life(9, 63, 10, 2)", 1);
        then.due("life(13, 63, 10, 0)", 1).due("life(9, 63, 10, 0)", 1).due("life(9, 63, 11, 0)", 0);
        Asked death = line("3", "10", "4", "9", "9", "9");
        death.due("life(9, 63, 9, 0)", 0).due("life(9, 63, 10, 0)", 1).due("life(9, 63, 40, 0)", 1);
        death.due("life(9, 63, 40, 2)", 0).due("life(13, 63, 40, 0)", 0);
    }

    private static void dead() {
        says("or is dead (died in a lesser YEAR, or in the same by a MAYBE of lesser number)");
        for (int kind = 0; kind <= 2; kind += 2) {
            String call = kind == 0 ? "life(9, C, 40, 0)" : "life(0, C, 40, 2)";
            String behind = kind == 0 ? "life(8, C, 40, 0)" : call;
            for (int year = 4; year <= 6; year++) {
                Asked x = asked("person(50, -1)", "maybe(1, 0, 5)", "maybe(" + kind + ", 0, " + year + ")");
                x.due(call.replace("C", "3"), year == 4 ? 1 : 0).due(call.replace("C", "2"), 1);
                Asked y = asked("person(50, -1)", "maybe(" + kind + ", 0, " + year + ")", "maybe(1, 0, 5)");
                y.due(behind.replace("C", "3"), year <= 5 ? 1 : 0).due(behind.replace("C", "1"), 1);
            }
        }
        Asked twice = asked("person(50, -1)", "maybe(1, 0, 20)", "maybe(1, 0, 10)", "maybe(0, 0, 1)", "maybe(2, 10, 25)");
        twice.due("life(0, 3, 9, 0)", 1).due("life(0, 3, 10, 0)", 0).due("life(0, 3, 20, 0)", 0).due("life(0, 1, 19, 0)", 1);
        twice.grant("f0 life if w", 0).due("late(0, 0, 5, 1)", 14).due("late(0, 0, 14, 1)", 14).due("late(0, 0, 15, 0)", 0);
    }

    private static void byYearsThenByNumbers() {
        says("MAYBES come by YEARS, in one YEAR by numbers.");
        Asked x = asked("person(50, -1)", "maybe(0, 0, 9)", "maybe(1, 0, 8)", "maybe(2, 8, 9)", "maybe(0, 0, 8)");
        x.due("life(8, 7, 40, 0)", 0).due("life(8, 7, 40, 2)", 0).due("life(8, 5, 9, 0)", 1).due("life(8, 5, 9, 2)", 1);
        x.due("life(11, 10, 40, 0)", 0).due("life(11, 8, 8, 0)", 1);
        Asked y = asked("person(50, -1)", "maybe(0, 0, 8)", "maybe(1, 0, 8)", "maybe(0, 0, 8)");
        y.due("life(8, 7, 8, 0)", 1).due("life(0, 7, 8, 0)", 0).due("life(10, 7, 40, 0)", 0).due("life(10, 5, 8, 0)", 1);
    }

    private static void alive() {
        says("A PERSON is ALIVE in a YEAR, if born by then (that YEAR, too), and not dead by then (dead from the YEAR of its death on).");
        Asked x = asked("person(0, -1)", "maybe(0, 0, 7)", "maybe(1, 8, 9)", "maybe(1, 0, 9)", "maybe(1, 8, 7)");
        x.due("life(8, 1, 6, 0)", 0).due("life(8, 1, 7, 0)", 1).due("life(8, 1, 40, 0)", 1);
        x.due("life(8, 3, 6, 0)", 0).due("life(8, 3, 7, 0)", 1).due("life(8, 3, 8, 0)", 1);
        x.due("life(8, 3, 9, 0)", 0).due("life(8, 3, 10, 0)", 0).due("life(8, 3, 40, 0)", 0);
        x.due("life(0, 4, 0, 0)", 1).due("life(0, 4, 8, 0)", 1).due("life(0, 4, 9, 0)", 0).due("life(0, 4, 40, 0)", 0);
        x.due("life(8, 9, 6, 0)", 0).due("life(8, 9, 7, 0)", 0).due("life(8, 9, 8, 0)", 0).due("life(8, 2, 9, 0)", 0);
    }

    private static void agesInYears() {
        says("AGE in a YEAR: that in YEAR 0 and the YEAR; of a child the YEAR less that of its birth.");
        Asked x = asked("person(90, -1)", "person(0, -1)", "maybe(0, 1, 40)", "maybe(0, 1, 1)", "maybe(1, 0, 5)");
        x.due("life(0, 0, 0, 1)", 90).due("life(0, 0, 1, 1)", 91).due("life(0, 0, 40, 1)", 130);
        x.due("life(1, 0, 0, 1)", 0).due("life(1, 0, 40, 1)", 40);
        x.due("life(8, 1, 39, 1)", NOT).due("life(8, 1, 40, 1)", 0);
        x.due("life(9, 2, 0, 1)", NOT).due("life(9, 2, 1, 1)", 0).due("life(9, 2, 2, 1)", 1).due("life(9, 2, 40, 1)", 39);
        x.due("life(0, 4, 5, 1)", 95).due("life(0, 4, 40, 1)", 130);
    }

    private static void livesOfPersons() {
        says("Of a PERSON (0 .. 13) in a COURSE and YEAR: what 0 whether it is ALIVE (1, 0), 1 AGE (-5: not born), 2 whether it has wed.");
        Asked x = asked("person(50, -1)", "person(40, -1)", "maybe(2, 0, 7)", "maybe(2, 1, 9)", "maybe(2, 0, 8)");
        x.due("life(0, 1, 6, 2)", 0).due("life(0, 1, 7, 2)", 1).due("life(0, 1, 40, 2)", 1).due("life(0, 2, 40, 2)", 0);
        x.due("life(1, 7, 8, 2)", 0).due("life(1, 7, 9, 2)", 1).due("life(0, 5, 7, 2)", 1).due("life(0, 4, 7, 2)", 0);
        for (int p = 2; p <= 13; p++) {
            x.due("life(" + p + ", 7, 0, 0)", 0).due("life(" + p + ", 7, 40, 1)", NOT).due("life(" + p + ", 7, 40, 2)", 0);
        }
        x.does("maybe(0, 1, 5)", "maybe(0, 11, 6)", "maybe(2, 12, 7)");
        x.due("life(12, 63, 6, 1)", 0).due("life(12, 63, 6, 2)", 0).due("life(12, 63, 7, 2)", 1).due("life(11, 63, 7, 1)", 2);
    }

    private static void livesAskedAnew() {
        says("Of a PERSON (0 .. 13) in a COURSE and YEAR");
        Asked x = asked("person(50, -1)", "maybe(2, 0, 20)", "maybe(0, 0, 30)", "maybe(1, 0, 35)", "maybe(3, 1, 36)");
        x.grant("p0 9y;>d1:c0 ever", 0);
        for (int round = 0; round < 3; round++) {
            x.due("life(0, 15, 19, 2)", 0).due("life(0, 15, 20, 2)", 1).due("life(9, 15, 29, 0)", 0).due("life(9, 15, 30, 0)", 1);
            x.due("life(0, 15, 34, 0)", 1).due("life(0, 15, 35, 0)", 0).due("began(0, 1, 15)", 36).due("measure(15)", round == 0 ? 0 : NOT);
            x.does("person(" + (40 - round) + ", " + round + ")").due("life(" + (round + 1) + ", 15, 0, 1)", 40 - round);
        }
        x.does("maybe(1, 9, 32)").due("life(0, 15, 19, 2)", 0).due("life(9, 15, 32, 0)", 1).due("life(9, 31, 32, 0)", 0).due("life(0, 31, 19, 2)", 0);
        x.does("maybe(2, 9, 31)").due("life(9, 31, 40, 2)", 0).due("life(9, 63, 30, 2)", 0).due("life(9, 63, 31, 2)", 1).due("began(0, 1, 63)", 36);
    }

    private static void livesRefused() {
        says("NONE: person, what; BAD.");
        Asked x = asked("person(50, -1)", "maybe(1, 0, 10)");
        for (String wrong : new String[] {"-1", "14", "MIN", "MAX"}) {
            x.due("life(" + wrong + ", 0, 0, 0)", NONE).due("life(" + wrong + ", 2, 41, 0)", NONE);
        }
        for (String wrong : new String[] {"-1", "3", "MIN", "MAX"}) {
            x.due("life(0, 0, 0, " + wrong + ")", NONE).due("life(0, 2, 41, " + wrong + ")", NONE);
        }
        for (String wrong : new String[] {"-1", "2", "MIN", "MAX"}) {
            x.due("life(0, " + wrong + ", 0, 0)", BAD).due("life(13, " + wrong + ", 40, 2)", BAD);
        }
        x.due("life(13, 1, 40, 2)", 0).due("life(0, 1, 40, 1)", 90);
    }

    private static void manyCalls() {
        says("An object is used for at most 512 calls after it has been made");
        Asked x = asked("person(50, -1)", "maybe(1, 0, 40)");
        x.grant("p0 life", 0);
        while (x.callsLeft() > 2) {
            x.due("image()", 1);
        }
        x.due("has(0, 1, 39, 0)", 1).due("has(0, 1, 40, 0)", 0);
    }
}
