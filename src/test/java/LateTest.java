/** Promises 15 to 19: what may come too late, and what is done about it. */
public final class LateTest {
    private static final Checks CHECKS = new Checks("LateTest");
    private static final int NONE = -1, BAD = -2, STATE = -3, FULL = -4, NOT = -5;

    public static void main(String[] args) {
        lates();
        lateNeedsAllDead();
        lateShown();
        lateRefused();
        measures();
        sees();
        seeRefused();
        strikes();
        strikeRefused();
        mends();
        mendsUpAndDown();
        mendStaysInRange();
        mendRefused();
        CHECKS.end();
    }

    private static void due(String call, int got, int want) {
        CHECKS.due(call, got, want);
    }

    /** One life, that may end in YEAR 5; a child that may be born in YEAR 3 and wed in YEAR 30. */
    private static LifeGrants oneLife() {
        LifeGrants x = new LifeGrants();
        x.person(50, -1);
        x.maybe(1, 0, 5);
        x.maybe(0, 0, 3);
        x.maybe(2, 9, 30);
        return x;
    }

    private static void lates() {
        LifeGrants x = oneLife();
        CHECKS.grant(x, "p0 life;f0 life if a21;f0 life if w", 0);
        due("a first CLAUSE at once", x.late(0, 0, 0, 0), 0);
        due("it BEGINS in YEAR 24, 19 behind", x.late(0, 1, 18, 0), 1);
        due("no more than n", x.late(0, 1, 19, 0), 0);
        due("shown", x.late(0, 1, 18, 1), 3);
        due("not shown", x.late(0, 1, 19, 1), NOT);
        due("one that never BEGINS", x.late(0, 2, 0, 0), 0);
        due("by 40", x.late(0, 1, 40, 0), 0);
        CHECKS.grant(x, "f0 life if w", 1);
        due("the first CLAUSE, 25 behind", x.late(1, 0, 24, 0), 1);
        due("shown by all three", x.late(1, 0, 24, 1), 7);
        due("25", x.late(1, 0, 25, 0), 0);
        CHECKS.grant(x, "p0 life;>d0:f0 life", 2);
        due("no DEED", x.late(2, 1, 0, 0), 0);
        x.maybe(3, 0, 6);
        due("a SHIFT, 1 behind", x.late(2, 1, 0, 0), 1);
        due("a SHIFT, no more than 1", x.late(2, 1, 1, 0), 0);
        CHECKS.grant(x, "p0 life;f0 life", 3);
        due("in the YEAR of the death", x.late(3, 1, 0, 0), 0);
    }

    private static void lateNeedsAllDead() {
        LifeGrants x = new LifeGrants();
        x.person(50, -1);
        x.person(20, 0);
        x.maybe(1, 0, 2);
        CHECKS.grant(x, "p0 life;p1 life if a30", 0);
        due("one lives", x.late(0, 1, 0, 0), 0);
        x.maybe(1, 1, 20);
        due("all die, but later", x.late(0, 1, 0, 0), 0);
        x.maybe(0, 1, 19); // 10
        CHECKS.grant(x, "p0 life;f1 life if a3", 1);
        due("behind the last of LIVES, not the first", x.late(1, 1, 1, 0), 1);
        due("22 less 20", x.late(1, 1, 2, 0), 0);
        x.person(1, -1);
        due("another life", x.late(1, 1, 1, 0), 0);
        LifeGrants y = new LifeGrants();
        y.maybe(3, 0, 9);
        CHECKS.grant(y, "p0 life;>d0:c0 life", 0);
        due("nobody there", y.late(0, 1, 0, 0), 0);
        due("nobody there: shown", y.late(0, 1, 0, 1), NOT);
    }

    private static void lateShown() {
        LifeGrants x = new LifeGrants();
        x.person(50, -1);
        x.maybe(3, 1, 20);
        x.maybe(0, 0, 1);  // 9
        x.maybe(3, 0, 21);
        x.maybe(1, 0, 2);
        x.maybe(3, 1, 25);
        CHECKS.grant(x, "p0 life;f0 life if d1", 0);
        due("three MAYBES, the least", x.late(0, 1, 0, 1), 11);
        due("by 18 that of YEAR 20 no more", x.late(0, 1, 18, 1), 26);
        CHECKS.grant(x, "p0 life;f0 ever if d0;>d1:f0 life", 1);
        due("the SHIFT likewise", x.late(1, 2, 0, 1), 11);
        due("fewest first", x.late(1, 1, 0, 1), 14);
    }

    private static void lateRefused() {
        LifeGrants x = oneLife();
        CHECKS.grant(x, "p0 life;f0 life if a21", 0);
        due("late(1, 0, 0, 0)", x.late(1, 0, 0, 0), NONE);
        due("late(-1, 0, 0, 0)", x.late(-1, 0, 0, 0), NONE);
        due("late(0, 2, 0, 0)", x.late(0, 2, 0, 0), NONE);
        due("late(0, -1, 0, 0)", x.late(0, -1, 0, 0), NONE);
        due("late(0, 0, 0, 2)", x.late(0, 0, 0, 2), NONE);
        due("late(0, 0, 0, -1)", x.late(0, 0, 0, -1), NONE);
        due("late(0, 0, 41, 2): NONE first", x.late(0, 0, 41, 2), NONE);
        due("late(0, 0, 41, 0)", x.late(0, 0, 41, 0), BAD);
        due("late(0, 0, -1, 0)", x.late(0, 0, -1, 0), BAD);
    }

    private static void measures() {
        LifeGrants x = new LifeGrants();
        due("nobody there", x.measure(0), NOT);
        x.person(50, -1);
        x.person(40, -1);
        x.person(30, -1);
        x.maybe(1, 0, 5);
        x.maybe(1, 2, 9);
        x.maybe(1, 1, 9);
        x.maybe(1, 0, 20);
        x.maybe(1, 2, 3);
        due("not all die", x.measure(3), NOT);
        due("of several the least", x.measure(7), 1);
        due("the only one so late", x.measure(14), 0);
        due("an earlier death holds", x.measure(15), 1);
        due("likewise", x.measure(31), 1);
        due("likewise, in the course of all but 2", x.measure(27), NOT);
        due("measure(32)", x.measure(32), BAD);
        due("measure(-1)", x.measure(-1), BAD);
        LifeGrants y = new LifeGrants();
        y.person(50, -1);
        y.maybe(1, 0, 40);
        y.maybe(0, 0, 1);
        due("a child is none of LIVES", y.measure(3), 0);
        due("in the last YEAR", y.measure(1), 0);
    }

    private static void sees() {
        LifeGrants x = oneLife();
        CHECKS.grant(x, "p0 life;f0 life if a21;f0 life if w", 0);
        due("late: with birth and death", x.see(0, 1, 3, 0), 5);
        due("not late: no birth", x.see(0, 1, 1, 0), 3);
        due("not late: no death", x.see(0, 1, 2, 0), 5);
        due("the wedding does not matter", x.see(0, 1, 7, 0), 5);
        due("never late: at once", x.see(0, 1, 7, 19), 0);
        due("the first CLAUSE", x.see(0, 0, 0, 0), 0);
        CHECKS.grant(x, "f0 life if w", 1);
        due("late in YEAR 30", x.see(1, 0, 7, 0), 30);
        due("seen then, too, that it isn't", x.see(1, 0, 3, 0), 30);
        x.maybe(3, 0, 40);
        CHECKS.grant(x, "p0 life;>d0:f0 life", 2);
        due("late in YEAR 40", x.see(2, 1, 11, 0), 40);
        due("not late as seen in YEAR 40", x.see(2, 1, 7, 34), 40);
        due("not late by 35", x.see(2, 1, 7, 35), 0);
        LifeGrants y = new LifeGrants();
        y.person(50, -1);
        CHECKS.grant(y, "p0 life", 0);
        due("one COURSE alone", y.see(0, 0, 0, 0), 0);
    }

    private static void seeRefused() {
        LifeGrants x = oneLife();
        CHECKS.grant(x, "p0 life", 0);
        due("see(1, 0, 0, 0)", x.see(1, 0, 0, 0), NONE);
        due("see(0, 1, 0, 0)", x.see(0, 1, 0, 0), NONE);
        due("see(0, -1, 0, 0)", x.see(0, -1, 0, 0), NONE);
        due("see(0, 1, 8, 0): NONE first", x.see(0, 1, 8, 0), NONE);
        due("see(0, 0, 8, 0)", x.see(0, 0, 8, 0), BAD);
        due("see(0, 0, -1, 0)", x.see(0, 0, -1, 0), BAD);
        due("see(0, 0, 0, 41)", x.see(0, 0, 0, 41), BAD);
        due("see(0, 0, 0, -1)", x.see(0, 0, 0, -1), BAD);
    }

    private static void strikes() {
        LifeGrants x = oneLife();
        x.maybe(3, 0, 28);
        CHECKS.grant(x, "p0 4y if a7;f0 12y if a21;>d0:f0 9y if a2;p0 life;f0 ever if a24", 0);
        due("strike(0, 40)", x.strike(0, 40), STATE);
        due("the last one BEGINS in YEAR 36: struck by 30", x.late(0, 4, 30, 0), 1);
        due("strike(0, 30)", x.strike(0, 30), 1);
        due("four are left", x.told(1, -1), 4);
        due("their NUMBERS", x.told(1, -2), 6);
        due("the last NUMBER", x.told(1, 5), 2);
        due("the first GRANT stays", x.told(0, -1), 5);
        due("strike(0, 22): the SHIFT, too", x.strike(0, 22), 2);
        due("three are left", x.told(2, -1), 3);
        int[] left = {4, 7, 12, 21};
        due("NUMBERS", x.told(2, -2), left.length);
        for (int i = 0; i < left.length; i++) {
            due("told(2, " + i + ")", x.told(2, i), left[i]);
        }
        due("that behind is the IF", x.as(2, 1, 0), 4);
        due("and BEHIND", x.as(2, 2, 0), 2);
        due("as it goes", x.has(2, 3, 24, 0), 512);
        due("it is back then", x.has(2, 3, 36, 0), 0);
        due("strike(0, 0)", x.strike(0, 0), 3);
        due("two are left", x.told(3, -1), 2);
        due("nothing is late now", x.strike(3, 0), STATE);
    }

    private static void strikeRefused() {
        LifeGrants x = oneLife();
        CHECKS.grant(x, "f0 life if a21", 0);
        due("it is late", x.late(0, 0, 0, 0), 1);
        due("the first one is not struck", x.strike(0, 0), STATE);
        due("strike(1, 0)", x.strike(1, 0), NONE);
        due("strike(-1, 41): NONE first", x.strike(-1, 41), NONE);
        due("strike(0, 41)", x.strike(0, 41), BAD);
        due("strike(0, -1)", x.strike(0, -1), BAD);
        CHECKS.grant(x, "f0 9y if a21;f0 5y", 1);
        due("strike(1, 0)", x.strike(1, 0), 2);
        for (int i = 3; i < 6; i++) {
            CHECKS.grant(x, "p0 life", i);
        }
        Checks.feed(x, "p0");
        due("strike(1, 0), a seventh", x.strike(1, 0), FULL);
        due("strike(0, 0): STATE first", x.strike(0, 0), STATE);
        due("strike(1, 41): BAD first", x.strike(1, 41), BAD);
        due("strike(6, 0): NONE first", x.strike(6, 0), NONE);
        due("count(2)", x.count(2), 6);
        due("THE TAPE stays", x.count(4), 2);
    }

    private static void mends() {
        LifeGrants x = oneLife();
        CHECKS.grant(x, "p0 life;f0 life if a21", 0);
        due("none is late as it is", x.mend(0, 0, 19), 0);
        due("a YEAR sooner", x.mend(0, 0, 18), -1);
        due("five sooner", x.mend(0, 0, 14), -5);
        due("six are too many", x.mend(0, 0, 13), -100);
        due("it stays as it was", x.told(0, 0), 21);
        CHECKS.grant(x, "p0 10y;f0 2y if a21;f0 ever if a9", 1);
        due("told(1, -2)", x.told(1, -2), 4);
        due("the NUMBER of another CLAUSE does nothing", x.mend(1, 0, 18), -100);
        due("that of the if: till the next one is not late either", x.mend(1, 2, 18), -3);
        due("that of the years, for the next one", x.mend(1, 1, 20), -1);
        due("by 21 none", x.mend(1, 1, 21), 0);
    }

    private static void mendsUpAndDown() {
        LifeGrants y = new LifeGrants();
        y.person(20, -1);
        y.maybe(1, 0, 5);
        y.maybe(0, 0, 1); // 9
        y.maybe(3, 0, 8);
        CHECKS.grant(y, "p0 life;f0 6y if a5;f0 life", 0);
        due("told(0, 0)", y.told(0, 0), 6);
        due("BEGINS in YEAR 6 and 12: by 7 none", y.mend(0, 0, 7), 0);
        due("by 6 a YEAR less", y.mend(0, 0, 6), -1);
        due("by 3 four less", y.mend(0, 0, 3), -4);
        due("by 1 more than five", y.mend(0, 0, 1), -100);
        due("up: never again in these YEARS", y.mend(0, 1, 7), 0);
        LifeGrants z = new LifeGrants();
        z.person(20, -1);
        z.maybe(1, 0, 2);
        z.maybe(0, 0, 1); // 9
        CHECKS.grant(z, "f0 life if a38;p0 life", 0);
        due("YEAR 39: by 36 up or down by one: less first", z.mend(0, 0, 36), -1);
        due("by 35: two less, or two more: less first", z.mend(0, 0, 35), -2);
        due("by 34: two more are less than three less", z.mend(0, 0, 34), 2);
        due("by 0", z.mend(0, 0, 0), 2);
        CHECKS.grant(z, "f0 life if a35", 1);
        due("five more", z.mend(1, 0, 0), 5);
        CHECKS.grant(z, "f0 life if a34", 2);
        due("six more", z.mend(2, 0, 0), -100);
        CHECKS.grant(z, "f0 39y;f0 life", 3);
        // The first CLAUSE BEGINS in YEAR 1, so the second in YEAR 40: one less is late still.
        due("a y: one more", z.mend(3, 0, 0), 1);
    }

    private static void mendStaysInRange() {
        LifeGrants x = new LifeGrants();
        x.person(20, -1);
        x.maybe(1, 0, 2);
        x.maybe(0, 0, 1); // 9
        CHECKS.grant(x, "f0 3y;f0 life if a1", 0);
        due("YEAR 4, 2 behind: by 1", x.mend(0, 0, 1), -1);
        due("by 0", x.mend(0, 0, 0), -2);
        due("the other NUMBER: no help, and none below 0", x.mend(0, 1, 0), -100);
        CHECKS.grant(x, "p0 98y;f0 life if a5", 1);
        due("none above 99", x.mend(1, 0, 0), -100);
        LifeGrants y = new LifeGrants();
        y.person(90, -1);
        y.maybe(1, 0, 20);
        y.maybe(0, 0, 1); // 9
        CHECKS.grant(y, "p0 1y if a98;f0 31y;f0 life", 0);
        due("with a98 the last BEGINS in YEAR 40, with a99 nevermore", y.mend(0, 1, 0), 1);
        CHECKS.grant(y, "p0 1y if a99;f0 30y;f0 life", 1);
        due("a100 would mend it, but is no NUMBER", y.mend(1, 1, 0), -100);
        CHECKS.grant(x, "f0 0y;f0 1y;f0 1y;f0 life", 2);
        due("a 0 goes up alone, which is no help", x.mend(2, 0, 0), -100);
        due("a 1 goes to 0", x.mend(2, 1, 0), -1);
    }

    private static void mendRefused() {
        LifeGrants x = oneLife();
        CHECKS.grant(x, "p0 life;f0 life if a21", 0);
        due("mend(1, 0, 0)", x.mend(1, 0, 0), NONE);
        due("mend(-1, 0, 0)", x.mend(-1, 0, 0), NONE);
        due("mend(0, 1, 0)", x.mend(0, 1, 0), NONE);
        due("mend(0, -1, 0)", x.mend(0, -1, 0), NONE);
        due("mend(0, -2, 0)", x.mend(0, -2, 0), NONE);
        due("mend(0, 1, 41): NONE first", x.mend(0, 1, 41), NONE);
        due("mend(0, 0, 41)", x.mend(0, 0, 41), BAD);
        due("mend(0, 0, -1)", x.mend(0, 0, -1), BAD);
    }
}
