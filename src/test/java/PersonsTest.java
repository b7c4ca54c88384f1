/** Promises 1 to 4: a new object, persons, maybes, lives. */
public final class PersonsTest {
    private static final Checks CHECKS = new Checks("PersonsTest");
    private static final int NONE = -1, BAD = -2, STATE = -3, FULL = -4, NOT = -5;

    public static void main(String[] args) {
        newObject();
        persons();
        personRefused();
        maybes();
        maybeRefused();
        lives();
        nothingComesOfTheUnbornAndTheDead();
        oneYear();
        lifeRefused();
        CHECKS.end();
    }

    private static void due(String call, int got, int want) {
        CHECKS.due(call, got, want);
    }

    private static void newObject() {
        LifeGrants x = new LifeGrants();
        for (int what = 0; what < 6; what++) {
            due("new: count(" + what + ")", x.count(what), 0);
        }
        due("new: life(0, 0, 0, 0)", x.life(0, 0, 0, 0), 0);
        due("new: life(0, 1, 0, 0)", x.life(0, 1, 0, 0), BAD);
        due("new: measure(0)", x.measure(0), NOT);
        due("new: undo()", x.undo(), STATE);
        due("new: grant()", x.grant(), -10);
        due("new: trace(0)", x.trace(0), NONE);
        due("new: told(0, -1)", x.told(0, -1), NONE);
    }

    private static void persons() {
        LifeGrants x = new LifeGrants();
        due("person(90, -1)", x.person(90, -1), 0);
        due("person(0, -1)", x.person(0, -1), 1);
        due("person(89, 0)", x.person(89, 0), 2);
        due("person(88, 2)", x.person(88, 2), 3);
        due("person(0, 3)", x.person(0, 3), 4);
        due("life(4, 0, 7, 1)", x.life(4, 0, 7, 1), 7);
        due("life(0, 0, 40, 1)", x.life(0, 0, 40, 1), 130);
        due("life(0, 0, 0, 0)", x.life(0, 0, 0, 0), 1);
    }

    private static void personRefused() {
        LifeGrants x = new LifeGrants();
        due("person(1, 0), nobody there", x.person(1, 0), NONE);
        x.person(30, -1);
        due("person(1, 1)", x.person(1, 1), NONE);
        due("person(1, -2)", x.person(1, -2), NONE);
        due("person(1, 8)", x.person(1, 8), NONE);
        due("person(91, 1): NONE first", x.person(91, 1), NONE);
        due("person(91, -1)", x.person(91, -1), BAD);
        due("person(-1, -1)", x.person(-1, -1), BAD);
        due("person(91, 0): BAD first", x.person(91, 0), BAD);
        due("person(30, 0): as old", x.person(30, 0), STATE);
        due("person(31, 0)", x.person(31, 0), STATE);
        due("count(0)", x.count(0), 1);
        for (int i = 1; i < 8; i++) {
            due("person(29, 0)", x.person(29, 0), i);
        }
        due("person(29, 0), a ninth", x.person(29, 0), FULL);
        due("person(30, 0): STATE first", x.person(30, 0), STATE);
        due("person(-1, 0): BAD first", x.person(-1, 0), BAD);
        due("person(0, 8): NONE first", x.person(0, 8), NONE);
        due("count(0)", x.count(0), 8);
        due("life(7, 0, 0, 1)", x.life(7, 0, 0, 1), 29);
    }

    private static void maybes() {
        LifeGrants x = new LifeGrants();
        x.person(20, -1);
        due("maybe(0, 0, 1)", x.maybe(0, 0, 1), 0);
        due("maybe(0, 8, 40)", x.maybe(0, 8, 40), 1);
        due("maybe(1, 9, 40)", x.maybe(1, 9, 40), 2);
        due("maybe(2, 8, 20)", x.maybe(2, 8, 20), 3);
        due("maybe(3, 3, 5)", x.maybe(3, 3, 5), 4);
        due("maybe(3, 0, 5)", x.maybe(3, 0, 5), 5);
        due("count(1)", x.count(1), 6);
        due("measure(63)", x.measure(63), NOT);
        due("measure(64)", x.measure(64), BAD);
    }

    private static void maybeRefused() {
        LifeGrants x = new LifeGrants();
        due("maybe(0, 0, 1), nobody there", x.maybe(0, 0, 1), NONE);
        x.person(20, -1);
        due("maybe(-1, 0, 1)", x.maybe(-1, 0, 1), NONE);
        due("maybe(4, 0, 1)", x.maybe(4, 0, 1), NONE);
        due("maybe(4, 0, 0): NONE first", x.maybe(4, 0, 0), NONE);
        due("maybe(1, 1, 1)", x.maybe(1, 1, 1), NONE);
        due("maybe(2, -1, 1)", x.maybe(2, -1, 1), NONE);
        due("maybe(0, 8, 1): its own child", x.maybe(0, 8, 1), NONE);
        due("maybe(3, 4, 1)", x.maybe(3, 4, 1), NONE);
        due("maybe(3, -1, 1)", x.maybe(3, -1, 1), NONE);
        due("maybe(0, 0, 0)", x.maybe(0, 0, 0), BAD);
        due("maybe(0, 0, 41)", x.maybe(0, 0, 41), BAD);
        due("count(1)", x.count(1), 0);
        x.maybe(1, 0, 9);
        due("maybe(2, 8, 9): MAYBE 0 is no birth", x.maybe(2, 8, 9), NONE);
        x.maybe(0, 0, 3);
        due("maybe(2, 10, 9)", x.maybe(2, 10, 9), NONE);
        due("maybe(2, 9, 2): ahead of its birth, but told", x.maybe(2, 9, 2), 2);
        for (int i = 3; i < 6; i++) {
            due("maybe(3, 0, 1)", x.maybe(3, 0, 1), i);
        }
        due("maybe(3, 0, 1), a seventh", x.maybe(3, 0, 1), FULL);
        due("maybe(3, 0, 41): BAD first", x.maybe(3, 0, 41), BAD);
        due("maybe(3, 9, 1): NONE first", x.maybe(3, 9, 1), NONE);
        due("count(1)", x.count(1), 6);
    }

    private static void lives() {
        LifeGrants x = new LifeGrants();
        x.person(50, -1);
        x.maybe(0, 0, 5);
        x.maybe(2, 8, 25);
        x.maybe(1, 8, 30);
        x.maybe(1, 0, 10);
        due("alive ahead of its birth", x.life(8, 1, 4, 0), 0);
        due("alive in the year of its birth", x.life(8, 1, 5, 0), 1);
        due("age ahead of its birth", x.life(8, 1, 4, 1), NOT);
        due("age in the year of its birth", x.life(8, 1, 5, 1), 0);
        due("age at the end", x.life(8, 1, 40, 1), 35);
        due("not born at all", x.life(8, 0, 40, 1), NOT);
        due("not alive, not born", x.life(8, 0, 40, 0), 0);
        due("wed ahead", x.life(8, 3, 24, 2), 0);
        due("wed that year", x.life(8, 3, 25, 2), 1);
        due("wed not come", x.life(8, 1, 40, 2), 0);
        due("alive the year ahead of death", x.life(8, 5, 29, 0), 1);
        due("dead from that year on", x.life(8, 5, 30, 0), 0);
        due("dead for good", x.life(8, 5, 40, 0), 0);
        due("age of one dead", x.life(8, 5, 40, 1), 35);
        due("wed stays of one dead", x.life(8, 7, 40, 2), 1);
        due("age of one of the first", x.life(0, 8, 9, 1), 59);
        due("dies", x.life(0, 8, 10, 0), 0);
        due("a person that is not there", x.life(5, 0, 0, 0), 0);
        due("its age", x.life(5, 0, 0, 1), NOT);
        due("the child of a maybe that is none", x.life(13, 15, 40, 1), NOT);
    }

    private static void nothingComesOfTheUnbornAndTheDead() {
        LifeGrants x = new LifeGrants();
        x.person(50, -1);
        x.maybe(0, 0, 20); // 8
        x.maybe(2, 8, 10); // ahead of its birth
        x.maybe(1, 0, 15); // the parent dies
        x.maybe(0, 8, 30); // 11, a grandchild
        x.maybe(2, 0, 16); // dead already
        x.maybe(1, 0, 12);
        due("wed ahead of birth does nothing", x.life(8, 3, 40, 2), 0);
        due("a birth of one dead does nothing", x.life(8, 5, 40, 0), 0);
        due("nor a birth of one not born", x.life(11, 13, 40, 1), NOT);
        due("with the parent alive it is born", x.life(11, 9, 30, 0), 1);
        due("a grandchild whose parent did not come", x.life(11, 8, 30, 0), 0);
        due("wed of one dead", x.life(0, 20, 40, 2), 0);
        due("wed of one alive", x.life(0, 16, 16, 2), 1);
        due("the earlier death of two", x.life(0, 36, 12, 0), 0);
        due("alive ahead of it", x.life(0, 36, 11, 0), 1);
        due("measure is of the earlier death", x.measure(36), 0);
    }

    private static void oneYear() {
        LifeGrants x = new LifeGrants();
        x.person(50, -1);
        x.person(40, -1);
        x.maybe(0, 0, 5);  // 8: ahead of the parent's death
        x.maybe(1, 0, 5);
        x.maybe(0, 0, 5);  // 10: behind it
        x.maybe(2, 0, 5);  // behind it
        x.maybe(1, 8, 5);  // dies as it is born
        x.maybe(2, 8, 5);
        due("born ahead of the death of that year", x.life(8, 3, 5, 0), 1);
        due("not born behind it", x.life(10, 7, 40, 0), 0);
        due("born without that death", x.life(10, 4, 5, 0), 1);
        due("wed behind it", x.life(0, 10, 40, 2), 0);
        due("wed without it", x.life(0, 8, 5, 2), 1);
        due("dead in the year of its birth", x.life(8, 17, 5, 0), 0);
        due("its age", x.life(8, 17, 6, 1), 1);
        due("nor does it wed", x.life(8, 49, 40, 2), 0);
        due("as it does alive", x.life(8, 33, 5, 2), 1);
    }

    private static void lifeRefused() {
        LifeGrants x = new LifeGrants();
        x.person(50, -1);
        x.maybe(1, 0, 10);
        due("life(-1, 0, 0, 0)", x.life(-1, 0, 0, 0), NONE);
        due("life(14, 0, 0, 0)", x.life(14, 0, 0, 0), NONE);
        due("life(0, 0, 0, -1)", x.life(0, 0, 0, -1), NONE);
        due("life(0, 0, 0, 3)", x.life(0, 0, 0, 3), NONE);
        due("life(14, 2, 0, 0): NONE first", x.life(14, 2, 0, 0), NONE);
        due("life(0, 2, 0, 3): NONE first", x.life(0, 2, 0, 3), NONE);
        due("life(0, 2, 0, 0)", x.life(0, 2, 0, 0), BAD);
        due("life(0, -1, 0, 0)", x.life(0, -1, 0, 0), BAD);
        due("life(0, MIN, 0, 0)", x.life(0, Integer.MIN_VALUE, 0, 0), BAD);
        due("life(0, 0, 41, 0)", x.life(0, 0, 41, 0), BAD);
        due("life(0, 0, -1, 0)", x.life(0, 0, -1, 0), BAD);
        due("life(13, 1, 40, 0)", x.life(13, 1, 40, 0), 0);
    }
}
