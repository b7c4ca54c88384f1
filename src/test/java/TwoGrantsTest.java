/** Promises 20 to 22: two grants of one field. */
public final class TwoGrantsTest {
    private static final Checks CHECKS = new Checks("TwoGrantsTest");
    private static final int NONE = -1, BAD = -2, NOT = -5;

    public static void main(String[] args) {
        boths();
        clashes();
        sames();
        refused();
        CHECKS.end();
    }

    private static void due(String call, int got, int want) {
        CHECKS.due(call, got, want);
    }

    private static LifeGrants field() {
        LifeGrants x = new LifeGrants();
        x.person(50, -1);
        x.person(40, -1);
        x.maybe(1, 0, 10);
        x.maybe(1, 1, 20);
        CHECKS.grant(x, "p0 life", 0);
        CHECKS.grant(x, "p1 life", 1);
        CHECKS.grant(x, "p0 30y", 2);
        CHECKS.grant(x, "p1 if", -10 - 3);
        CHECKS.grant(x, "p7 life", 3);
        CHECKS.grant(x, "p1 ever", 4);
        return x;
    }

    private static void boths() {
        LifeGrants x = field();
        due("the first ahead", x.both(0, 1, 1, 9), 1);
        due("BACK by that: the second", x.both(0, 1, 1, 10), 2);
        due("the other way round", x.both(1, 0, 1, 9), 2);
        due("both at their end", x.both(0, 1, 3, 20), 0);
        due("none by the first at all", x.both(3, 1, 0, 0), 2);
        due("one with itself", x.both(1, 1, 3, 19), 2);
        due("an end of years", x.both(2, 1, 0, 30), 2);
        due("for ever", x.both(0, 4, 3, 40), 2);
    }

    private static void clashes() {
        LifeGrants x = field();
        due("all YEARS", x.clash(0, 1, 0), 41);
        due("till one dies", x.clash(0, 1, 3), 10);
        due("either way", x.clash(1, 0, 3), 10);
        due("years", x.clash(2, 1, 0), 30);
        due("for ever", x.clash(4, 0, 2), 41);
        due("none", x.clash(3, 1, 0), 0);
        due("with itself", x.clash(1, 1, 2), 20);
    }

    private static void sames() {
        LifeGrants x = field();
        due("not even in 0", x.same(0, 1), 0);
        due("itself", x.same(1, 1), NOT);
        due("for life and for ever differ as he dies", x.same(1, 4), 2);
        due("either way", x.same(4, 1), 2);
        due("an end of years", x.same(0, 2), 0);
        CHECKS.grant(x, "p0 41y;p3 life", 5);
        due("other words, but the same", x.same(0, 5), NOT);
        LifeGrants y = new LifeGrants();
        y.person(50, -1);
        y.person(30, 0);
        y.maybe(1, 1, 40);
        CHECKS.grant(y, "p1 life", 0);
        CHECKS.grant(y, "f0 99y", 1);
        due("by another CLAUSE and word", y.same(0, 1), NOT);
        CHECKS.grant(y, "p1 ever", 2);
        due("in the last YEAR alone", y.same(0, 2), 1);
        CHECKS.grant(y, "p1 40y;p1 ever", 3);
        due("the CLAUSE does not matter: but for ever does", y.same(2, 3), 1);
        due("as for life it is", y.same(0, 3), NOT);
    }

    private static void refused() {
        LifeGrants x = field();
        due("both(5, 0, 0, 0)", x.both(5, 0, 0, 0), NONE);
        due("both(0, 5, 0, 0)", x.both(0, 5, 0, 0), NONE);
        due("both(-1, 0, 0, 0)", x.both(-1, 0, 0, 0), NONE);
        due("both(0, -1, 4, 0): NONE first", x.both(0, -1, 4, 0), NONE);
        due("both(0, 1, 4, 0)", x.both(0, 1, 4, 0), BAD);
        due("both(0, 1, -1, 0)", x.both(0, 1, -1, 0), BAD);
        due("both(0, 1, 0, 41)", x.both(0, 1, 0, 41), BAD);
        due("both(0, 1, 0, -1)", x.both(0, 1, 0, -1), BAD);
        due("clash(5, 0, 0)", x.clash(5, 0, 0), NONE);
        due("clash(0, 5, 0)", x.clash(0, 5, 0), NONE);
        due("clash(0, 5, 4): NONE first", x.clash(0, 5, 4), NONE);
        due("clash(0, 1, 4)", x.clash(0, 1, 4), BAD);
        due("clash(0, 1, -1)", x.clash(0, 1, -1), BAD);
        due("same(5, 0)", x.same(5, 0), NONE);
        due("same(0, 5)", x.same(0, 5), NONE);
        due("same(-1, -1)", x.same(-1, -1), NONE);
    }
}
