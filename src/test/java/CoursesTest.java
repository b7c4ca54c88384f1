/** Promises 8 to 14: who has it, what began, what is sure, holders, shares, rows. */
public final class CoursesTest {
    private static final Checks CHECKS = new Checks("CoursesTest");
    private static final int NONE = -1, BAD = -2, FULL = -4, NOT = -5;

    public static void main(String[] args) {
        lives();
        years();
        evers();
        ifs();
        firstChildren();
        classes();
        failures();
        shifts();
        shiftsBehindTheEnd();
        personsThatComeLater();
        hasAndBeganRefused();
        sures();
        holders();
        shares();
        judges();
        rows();
        CHECKS.end();
    }

    private static void due(String call, int got, int want) {
        CHECKS.due(call, got, want);
    }

    /** HAS in a YEAR: the PERSONS, and the CLAUSE by which. */
    private static void has(LifeGrants x, int grant, int course, int year, int persons, int clause) {
        String call = "has(" + grant + ", " + course + ", " + year + ", ";
        due(call + "0)", x.has(grant, course, year, 0), persons);
        due(call + "1)", x.has(grant, course, year, 1), clause);
    }

    private static void lives() {
        LifeGrants x = new LifeGrants();
        x.person(50, -1);
        x.person(40, -1);
        x.maybe(1, 0, 10);
        x.maybe(1, 1, 20);
        CHECKS.grant(x, "p0 life;p1 life", 0);
        has(x, 0, 0, 0, 1, 0);
        has(x, 0, 0, 40, 1, 0);
        has(x, 0, 1, 9, 1, 0);
        has(x, 0, 1, 10, 2, 1);
        has(x, 0, 3, 19, 2, 1);
        has(x, 0, 3, 20, 0, NOT);
        has(x, 0, 2, 20, 1, 0);
        due("began(0, 0, 3)", x.began(0, 0, 3), 0);
        due("began(0, 1, 3)", x.began(0, 1, 3), 10);
        due("began(0, 1, 2)", x.began(0, 1, 2), NOT);
    }

    private static void years() {
        LifeGrants x = new LifeGrants();
        x.person(50, -1);
        x.person(40, -1);
        x.maybe(1, 0, 3);
        CHECKS.grant(x, "p0 5y;p1 10y;p0 life", 0);
        has(x, 0, 0, 4, 1, 0);
        has(x, 0, 0, 5, 2, 1);
        has(x, 0, 0, 14, 2, 1);
        has(x, 0, 0, 15, 1, 2);
        has(x, 0, 1, 2, 1, 0);
        has(x, 0, 1, 3, 2, 1);
        has(x, 0, 1, 12, 2, 1);
        has(x, 0, 1, 13, 0, NOT);
        due("began(0, 1, 1)", x.began(0, 1, 1), 3);
        CHECKS.grant(x, "p0 0y;p1 1y;p1 0y;p0 ever", 1);
        has(x, 1, 0, 0, 2, 1);
        has(x, 1, 0, 1, 1, 3);
        due("a CLAUSE of 0 years BEGINS", x.began(1, 0, 0), 0);
        due("so does this", x.began(1, 2, 0), 1);
        due("and the next at once", x.began(1, 3, 0), 1);
        CHECKS.grant(x, "p0 99y", 2);
        has(x, 2, 0, 40, 1, 0);
    }

    private static void evers() {
        LifeGrants x = new LifeGrants();
        x.person(50, -1);
        x.person(20, 0);
        x.person(20, 0);
        x.maybe(1, 0, 3);
        x.maybe(1, 1, 4);
        x.maybe(1, 2, 5);
        CHECKS.grant(x, "p0 ever;p1 life", 0);
        has(x, 0, 7, 40, 1, 0);
        CHECKS.grant(x, "c0 ever;p0 life", 1);
        has(x, 1, 7, 40, 6, 0);
        CHECKS.grant(x, "c0 life;p0 life", 2);
        has(x, 2, 7, 3, 6, 0);
        has(x, 2, 7, 4, 4, 0);
        has(x, 2, 7, 5, 0, NOT);
        CHECKS.grant(x, "c0 5y;p1 life", 3);
        has(x, 3, 2, 4, 4, 0);
        has(x, 3, 2, 5, 0, NOT);
        has(x, 3, 4, 5, 2, 1);
        due("began(3, 1, 2)", x.began(3, 1, 2), NOT);
    }

    private static void ifs() {
        LifeGrants x = new LifeGrants();
        x.person(18, -1);
        x.person(90, -1);
        x.maybe(2, 0, 7);
        x.maybe(3, 1, 9);
        x.maybe(3, 1, 6);
        x.maybe(1, 0, 12);
        CHECKS.grant(x, "p0 life if a21;p1 life", 0);
        has(x, 0, 0, 2, 0, NOT);
        has(x, 0, 0, 3, 1, 0);
        CHECKS.grant(x, "p0 life if w;p1 ever", 1);
        has(x, 1, 1, 6, 0, NOT);
        has(x, 1, 1, 7, 1, 0);
        has(x, 1, 0, 40, 0, NOT);
        has(x, 1, 8, 11, 0, NOT);
        has(x, 1, 8, 12, 2, 1);
        CHECKS.grant(x, "p0 life if d1", 2);
        has(x, 2, 2, 8, 0, NOT);
        has(x, 2, 2, 9, 1, 0);
        has(x, 2, 6, 6, 1, 0);
        CHECKS.grant(x, "p0 life if d0;p1 ever", 3);
        has(x, 3, 6, 40, 0, NOT);
        CHECKS.grant(x, "p0 life if a18", 4);
        has(x, 4, 0, 0, 1, 0);
        CHECKS.grant(x, "p0 life if a31;p1 life if a99", 5);
        has(x, 5, 8, 12, 2, 1);
        has(x, 5, 0, 12, 0, NOT);
        has(x, 5, 0, 13, 1, 0);
    }

    private static void firstChildren() {
        LifeGrants x = new LifeGrants();
        x.person(60, -1);
        x.person(10, 0);
        x.person(30, 0);
        x.person(30, 0);
        x.maybe(0, 0, 4); // 8
        x.maybe(0, 0, 2); // 9
        x.maybe(0, 0, 2); // 10
        x.maybe(1, 2, 1);
        x.maybe(1, 3, 1);
        x.maybe(1, 1, 1);
        CHECKS.grant(x, "f0 0y;f0 life if a1;f0 ever", 0);
        due("the eldest, of like AGE the least", x.has(0, 0, 0, 0), 4);
        due("the next of like AGE", x.has(0, 8, 1, 0), 8);
        due("then the younger one", x.has(0, 24, 1, 0), 2);
        due("then those born: the first YEAR", x.has(0, 63, 3, 0), 512);
        due("in the YEAR of their birth", x.has(0, 63, 2, 0), 512);
        due("nobody ahead of it", x.has(0, 63, 1, 0), 0);
        due("without 9: 10", x.has(0, 61, 3, 0), 1024);
        due("without both: 8", x.has(0, 57, 5, 0), 256);
        due("those there at first ahead of the born", x.has(0, 31, 5, 0), 2);
        CHECKS.grant(x, "f0 life if w;p0 life", 1);
        due("first of those for whom the if HOLDS: none", x.has(1, 63, 40, 0), 0);
        CHECKS.grant(x, "f0 life if a31", 2);
        due("of age", x.has(2, 0, 1, 0), 4);
        CHECKS.grant(x, "f2 life;p0 life", 3);
        due("it waits for children while the parent lives", x.has(3, 0, 40, 0), 0);
        due("and fails as it dies", x.has(3, 8, 1, 0), 1);
    }

    private static void classes() {
        LifeGrants x = new LifeGrants();
        x.person(60, -1);
        x.person(10, 0);
        x.person(30, 0);
        x.maybe(0, 0, 4);  // 8
        x.maybe(1, 1, 6);
        x.maybe(1, 2, 9);
        x.maybe(1, 0, 20);
        x.maybe(2, 8, 30);
        CHECKS.grant(x, "c0 life;p0 life", 0);
        has(x, 0, 31, 0, 6, 0);
        has(x, 0, 31, 5, 6, 0);
        has(x, 0, 31, 6, 4, 0);
        has(x, 0, 31, 9, 1, 1);
        CHECKS.grant(x, "p0 5y;c0 10y", 1);
        has(x, 1, 31, 5, 262, 1);
        has(x, 1, 31, 6, 260, 1);
        has(x, 1, 31, 14, 256, 1);
        has(x, 1, 31, 15, 0, NOT);
        CHECKS.grant(x, "c0 life if a12", 2);
        has(x, 2, 0, 0, 4, 0);
        has(x, 2, 0, 40, 4, 0);
        CHECKS.grant(x, "c0 life if w", 3);
        has(x, 3, 31, 29, 0, NOT);
        has(x, 3, 31, 30, 256, 0);
        CHECKS.grant(x, "c0 life if a11;c0 life", 4);
        has(x, 4, 5, 8, 4, 0);
        has(x, 4, 5, 9, 258, 1);
        has(x, 4, 4, 9, 2, 1);
    }

    private static void failures() {
        LifeGrants x = new LifeGrants();
        x.person(60, -1);
        x.person(10, 0);
        x.maybe(1, 0, 5);
        x.maybe(1, 1, 8);
        x.maybe(0, 0, 4); // 10
        x.maybe(0, 1, 6); // 11
        CHECKS.grant(x, "p2 life;p0 life", 0);
        has(x, 0, 0, 0, 1, 1);
        CHECKS.grant(x, "f2 life;c7 ever;p1 life", 1);
        has(x, 1, 0, 0, 2, 2);
        CHECKS.grant(x, "f0 life if w;p1 ever", 2);
        has(x, 2, 1, 40, 0, NOT);
        has(x, 2, 3, 7, 0, NOT);
        has(x, 2, 3, 8, 0, NOT);
        due("with all gone it fails, and so does the next", x.began(2, 1, 3), NOT);
        CHECKS.grant(x, "p0 life if a90;c1 life;p1 life", 3);
        has(x, 3, 1, 40, 0, NOT);
        has(x, 3, 9, 5, 0, NOT);
        has(x, 3, 9, 6, 2048, 1);
        has(x, 3, 11, 8, 2048, 1);
        CHECKS.grant(x, "f1 life if a3;f0 ever", 4);
        has(x, 4, 14, 8, 0, NOT);
        has(x, 4, 14, 9, 2048, 0);
        has(x, 4, 6, 8, 1024, 1);
        has(x, 4, 2, 8, 0, NOT);
    }

    private static void shifts() {
        LifeGrants x = new LifeGrants();
        x.person(60, -1);
        x.person(50, -1);
        x.person(40, -1);
        x.maybe(3, 0, 5);
        x.maybe(3, 1, 5);
        x.maybe(1, 2, 7);
        x.maybe(3, 2, 9);
        CHECKS.grant(x, "p0 ever;>d0:p1 life;p2 life", 0);
        has(x, 0, 0, 40, 1, 0);
        has(x, 0, 1, 4, 1, 0);
        has(x, 0, 1, 5, 2, 1);
        has(x, 0, 1, 40, 2, 1);
        CHECKS.grant(x, "p0 ever;>d0:p1 ever;>d1:p2 ever", 1);
        has(x, 1, 3, 5, 2, 1);
        has(x, 1, 3, 6, 4, 2);
        has(x, 1, 7, 7, 4, 2);
        CHECKS.grant(x, "p0 ever;>d1:p2 life;>d0:p1 life", 2);
        has(x, 2, 3, 5, 4, 1);
        has(x, 2, 3, 6, 2, 2);
        has(x, 2, 2, 40, 4, 1);
        CHECKS.grant(x, "p0 3y;>d0:p1 1y;p2 life;>d2:p0 life", 3);
        has(x, 3, 0, 3, 4, 2);
        has(x, 3, 5, 5, 4, 2);
        due("a SHIFT ahead of the one that RUNS never does", x.began(3, 1, 5), NOT);
        has(x, 3, 12, 8, 0, NOT);
        has(x, 3, 12, 9, 1, 3);
        CHECKS.grant(x, "p0 ever;>d0:p2 life if a60;p1 life", 4);
        has(x, 4, 1, 5, 0, NOT);
        has(x, 4, 5, 6, 0, NOT);
        has(x, 4, 5, 7, 2, 2);
        has(x, 4, 1, 20, 4, 1);
        CHECKS.grant(x, "p0 ever;>w:p1 life;>a0:p2 life", 5);
        has(x, 5, 15, 40, 1, 0);
    }

    private static void shiftsBehindTheEnd() {
        LifeGrants x = new LifeGrants();
        x.person(60, -1);
        x.person(50, -1);
        x.maybe(3, 0, 5);
        x.maybe(3, 0, 2);
        CHECKS.grant(x, "p0 1y;>d0:p1 3y;p0 1y", 0);
        has(x, 0, 0, 1, 1, 2);
        has(x, 0, 0, 2, 0, NOT);
        has(x, 0, 1, 5, 0, NOT);
        has(x, 0, 2, 2, 0, NOT);
        CHECKS.grant(x, "p0 1y;>d0:p1 3y;p0 9y", 1);
        has(x, 1, 2, 2, 1, 2);
        CHECKS.grant(x, "p0 1y;p1 1y;>d0:p0 3y", 2);
        has(x, 2, 1, 4, 0, NOT);
        has(x, 2, 1, 5, 1, 2);
        has(x, 2, 1, 7, 1, 2);
        has(x, 2, 1, 8, 0, NOT);
        has(x, 2, 3, 2, 1, 2);
        CHECKS.grant(x, "p0 5y;>d0:p1 0y;>d0:p0 2y;p1 1y", 3);
        has(x, 3, 1, 5, 2, 3);
        due("the SHIFT of 0 years BEGAN", x.began(3, 1, 1), 5);
        due("the SHIFT behind it was passed", x.began(3, 2, 1), NOT);
    }

    private static void personsThatComeLater() {
        LifeGrants x = new LifeGrants();
        CHECKS.grant(x, "f0 life;p1 ever", 0);
        has(x, 0, 0, 0, 0, NOT);
        x.person(50, -1);
        has(x, 0, 0, 0, 0, NOT);
        x.person(20, 0);
        has(x, 0, 0, 0, 2, 0);
        x.maybe(1, 1, 3);
        has(x, 0, 0, 3, 2, 0);
        has(x, 0, 1, 3, 0, NOT);
    }

    private static void hasAndBeganRefused() {
        LifeGrants x = new LifeGrants();
        x.person(50, -1);
        x.maybe(1, 0, 10);
        CHECKS.grant(x, "p0 life;p0 life", 0);
        due("has(1, 0, 0, 0)", x.has(1, 0, 0, 0), NONE);
        due("has(-1, 0, 0, 0)", x.has(-1, 0, 0, 0), NONE);
        due("has(0, 0, 0, 2)", x.has(0, 0, 0, 2), NONE);
        due("has(0, 0, 0, -1)", x.has(0, 0, 0, -1), NONE);
        due("has(0, 2, 0, 2): NONE first", x.has(0, 2, 0, 2), NONE);
        due("has(0, 2, 0, 0)", x.has(0, 2, 0, 0), BAD);
        due("has(0, -1, 0, 0)", x.has(0, -1, 0, 0), BAD);
        due("has(0, 0, 41, 0)", x.has(0, 0, 41, 0), BAD);
        due("has(0, 0, -1, 0)", x.has(0, 0, -1, 0), BAD);
        due("began(1, 0, 0)", x.began(1, 0, 0), NONE);
        due("began(0, 2, 0)", x.began(0, 2, 0), NONE);
        due("began(0, -1, 0)", x.began(0, -1, 0), NONE);
        due("began(0, 2, 2): NONE first", x.began(0, 2, 2), NONE);
        due("began(0, 1, 2)", x.began(0, 1, 2), BAD);
        due("began(0, 1, -1)", x.began(0, 1, -1), BAD);
    }

    private static void sures() {
        LifeGrants x = new LifeGrants();
        x.person(50, -1);
        x.person(40, -1);
        CHECKS.grant(x, "p0 5y;p1 life if w;>d0:p0 life", 0);
        due("one COURSE: sure", x.sure(0, 0, 0), 2);
        due("one COURSE: shown", x.sure(0, 0, 1), 0);
        due("one COURSE: one", x.sure(0, 0, 2), 1);
        due("never", x.sure(0, 1, 0), 0);
        due("never shown", x.sure(0, 1, 1), NOT);
        due("in none", x.sure(0, 1, 2), 0);
        x.maybe(1, 1, 9);
        x.maybe(1, 1, 2);
        x.maybe(2, 1, 6);
        x.maybe(2, 1, 30);
        x.maybe(3, 0, 20);
        x.maybe(3, 0, 4);
        due("sure", x.sure(0, 0, 0), 2);
        due("sure in all", x.sure(0, 0, 2), 64);
        due("sure, shown by no MAYBE", x.sure(0, 0, 1), 0);
        due("may", x.sure(0, 1, 0), 1);
        due("may, shown by one, the least", x.sure(0, 1, 1), 4);
        // Ahead of d0 in YEAR 4: without it, without the death in YEAR 2 (16 COURSES): the wedding of
        // YEAR 6 (8), or that of YEAR 30 with neither the death of 9 nor the DEED of 20 (1).
        due("may, in so many", x.sure(0, 1, 2), 9);
        due("the SHIFT", x.sure(0, 2, 2), 48);
        due("the SHIFT shown", x.sure(0, 2, 1), 16);
        due("sure(1, 0, 0)", x.sure(1, 0, 0), NONE);
        due("sure(0, 3, 0)", x.sure(0, 3, 0), NONE);
        due("sure(0, -1, 0)", x.sure(0, -1, 0), NONE);
        due("sure(0, 0, 3)", x.sure(0, 0, 3), NONE);
        due("sure(0, 0, -1)", x.sure(0, 0, -1), NONE);
        LifeGrants y = new LifeGrants();
        y.person(50, -1);
        y.person(40, -1);
        y.maybe(3, 1, 3);
        y.maybe(3, 2, 3);
        y.maybe(3, 0, 3);
        y.maybe(1, 0, 1);
        CHECKS.grant(y, "p0 life;>d1:p1 1y;>d2:p1 life;p1 ever", 0);
        due("shown: fewest MAYBES ahead of least bits", y.sure(0, 3, 1), 1);
        due("shown: 2 alone", y.sure(0, 2, 1), 2);
        CHECKS.grant(y, "p0 life;>d0:p1 life", 1);
        due("shown: 4, not 5", y.sure(1, 1, 1), 4);
        LifeGrants z = new LifeGrants();
        z.person(50, -1);
        z.person(20, 0);
        z.maybe(0, 0, 3); // 8
        z.maybe(2, 8, 9);
        z.maybe(2, 1, 9);
        CHECKS.grant(z, "f0 life if w", 0);
        due("shown: 4, though 3 is less as bits", z.sure(0, 0, 1), 4);
    }

    private static void holders() {
        LifeGrants x = new LifeGrants();
        x.person(50, -1);
        x.person(40, -1);
        x.person(10, 1);
        x.maybe(1, 0, 9);
        x.maybe(0, 1, 4); // 9
        x.maybe(1, 1, 6);
        CHECKS.grant(x, "p0 20y;c1 life", 0);
        due("holders(0, 0)", x.holders(0, 0), 1 + 4 + 512);
        due("holders(0, 1)", x.holders(0, 1), 1 + 4);
        CHECKS.grant(x, "p0 life;p1 life", 1);
        due("holders(1, 0)", x.holders(1, 0), 3);
        due("holders(1, 1)", x.holders(1, 1), 1);
        CHECKS.grant(x, "p7 life", 2);
        due("holders(2, 0)", x.holders(2, 0), 0);
        due("holders(2, 1)", x.holders(2, 1), 0);
        CHECKS.grant(x, "p0 40y;p2 life", 3);
        due("in the last YEAR, too", x.holders(3, 0), 5);
        due("in the last YEAR, too, surely", x.holders(3, 1), 5);
        due("holders(4, 0)", x.holders(4, 0), NONE);
        due("holders(-1, 0)", x.holders(-1, 0), NONE);
        due("holders(0, 2)", x.holders(0, 2), NONE);
        due("holders(0, -1)", x.holders(0, -1), NONE);
    }

    private static void shares() {
        LifeGrants x = new LifeGrants();
        x.person(50, -1);
        x.person(20, 0);
        x.person(20, 0);
        x.maybe(0, 0, 2); // 8
        x.maybe(1, 1, 9);
        CHECKS.grant(x, "p0 3y;c0 life", 0);
        due("alone", x.share(0, 0, 3, 2), 1);
        due("not by then", x.share(0, 1, 3, 2), 0);
        due("of three", x.share(0, 1, 3, 3), 3);
        due("of three, the child", x.share(0, 8, 3, 3), 3);
        due("of two", x.share(0, 8, 3, 9), 2);
        due("dead", x.share(0, 1, 3, 9), 0);
        due("not there", x.share(0, 13, 3, 9), 0);
        CHECKS.grant(x, "c0 ever", 1);
        due("for ever, dead", x.share(1, 1, 3, 40), 2);
        due("share(2, 0, 0, 0)", x.share(2, 0, 0, 0), NONE);
        due("share(0, 14, 0, 0)", x.share(0, 14, 0, 0), NONE);
        due("share(0, -1, 0, 0)", x.share(0, -1, 0, 0), NONE);
        due("share(0, 14, 4, 0): NONE first", x.share(0, 14, 4, 0), NONE);
        due("share(0, 0, 4, 0)", x.share(0, 0, 4, 0), BAD);
        due("share(0, 0, -1, 0)", x.share(0, 0, -1, 0), BAD);
        due("share(0, 0, 0, 41)", x.share(0, 0, 0, 41), BAD);
        due("share(0, 0, 0, -1)", x.share(0, 0, 0, -1), BAD);
    }

    private static void judges() {
        LifeGrants x = new LifeGrants();
        x.person(50, -1);
        x.person(20, 0);
        x.maybe(1, 0, 2);
        CHECKS.grant(x, "p0 life;p1 3y", 0);
        due("none told", x.judged(0, 0), NOT);
        x.row(1);
        x.row(1);
        due("right so far", x.judged(0, 1), NOT);
        x.row(2);
        due("right in 1", x.judged(0, 1), NOT);
        due("wrong in 0", x.judged(0, 0), 2);
        x.row(2);
        x.row(2);
        x.row(0);
        due("BACK is no PERSON", x.judged(0, 1), NOT);
        x.row(2);
        due("wrong behind", x.judged(0, 1), 6);
        x.row(-1);
        due("empty", x.judged(0, 1), NOT);
        x.row(3);
        due("wrong at first", x.judged(0, 1), 0);
        x.row(-1);
        for (int year = 0; year <= 39; year++) {
            x.row(1);
        }
        x.row(16383);
        due("wrong in the last", x.judged(0, 0), 40);
        due("judged(1, 0)", x.judged(1, 0), NONE);
        due("judged(1, 2): NONE first", x.judged(1, 2), NONE);
        due("judged(0, 2)", x.judged(0, 2), BAD);
        due("judged(0, -1)", x.judged(0, -1), BAD);
    }

    private static void rows() {
        LifeGrants x = new LifeGrants();
        due("row(-1)", x.row(-1), 0);
        due("row(-2)", x.row(-2), BAD);
        due("row(16384)", x.row(16384), BAD);
        due("count(3)", x.count(3), 0);
        for (int i = 1; i <= 41; i++) {
            due("row(16383)", x.row(i % 2 == 0 ? 16383 : 0), i);
        }
        due("row(0), too many", x.row(0), FULL);
        due("row(16384): BAD first", x.row(16384), BAD);
        due("count(3)", x.count(3), 41);
        due("row(-1)", x.row(-1), 0);
        due("count(3)", x.count(3), 0);
        due("row(5)", x.row(5), 1);
    }
}
