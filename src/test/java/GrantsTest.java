/** Promises 5 to 7: the tape, grants, what is told of them. */
public final class GrantsTest {
    private static final Checks CHECKS = new Checks("GrantsTest");
    private static final int NONE = -1, BAD = -2, FULL = -4;

    public static void main(String[] args) {
        feeds();
        feedRefused();
        texts();
        faults();
        clausesAreSix();
        grantsAreSix();
        tellings();
        CHECKS.end();
    }

    private static void due(String call, int got, int want) {
        CHECKS.due(call, got, want);
    }

    private static void feeds() {
        LifeGrants x = new LifeGrants();
        x.person(50, -1);
        due("feed('p0 l', 4)", x.feed(0x7030206cL, 4), 4);
        due("feed(.. 'ife', 3): the lowest bytes alone", x.feed(0x1122334455696665L, 3), 7);
        due("count(4)", x.count(4), 7);
        due("grant()", x.grant(), 0);
        due("count(4)", x.count(4), 0);
        due("has(0, 0, 0, 0)", x.has(0, 0, 0, 0), 1);
        due("feed(-1, 8)", x.feed(-1L, 8), 8);
        due("grant() of bytes of 255", x.grant(), -10);
        due("feed(0, 1)", x.feed(0L, 1), 1);
        due("feed(MIN, 8)", x.feed(Long.MIN_VALUE, 8), 9);
    }

    private static void feedRefused() {
        LifeGrants x = new LifeGrants();
        due("feed(0, 0)", x.feed(0, 0), BAD);
        due("feed(0, 9)", x.feed(0, 9), BAD);
        due("feed(0, -1)", x.feed(0, -1), BAD);
        due("count(4)", x.count(4), 0);
        for (int i = 1; i <= 9; i++) {
            due("feed(.., 8)", x.feed(0x7030206c6966653bL, 8), 8 * i);
        }
        due("feed(.., 7)", x.feed(0, 7), 79);
        due("feed(.., 2): 81", x.feed(0, 2), FULL);
        due("count(4)", x.count(4), 79);
        due("feed(.., 9): BAD first", x.feed(0, 9), BAD);
        due("feed(.., 1)", x.feed(0, 1), 80);
        due("feed(.., 1): 81", x.feed(0, 1), FULL);
        due("grant()", x.grant(), -10 - 47);
        due("feed(.., 8)", x.feed(0, 8), 8);
    }

    private static void text(String text, int want) {
        CHECKS.grant(new LifeGrants(), text, want);
    }

    private static void texts() {
        String[] fine = {
            "p0 life", "p7 ever", "f0 0y", "c7 1y", "f3 99y", "p0 10y", "p0 life if w", "p0 life if a0",
            "p0 life if a9", "p0 life if a10", "p0 life if a99", "p0 life if d0", "c0 ever if d3",
            "p0 life;p1 life", "p0 life;>d0:p1 life", "p0 life;>w:f1 9y if a5", "p0 life;>a0:p1 life",
            "p0 life;>a21:c1 life if w", "p0 5y if w;>d3:p1 ever if d2;c0 life",
        };
        for (String text : fine) {
            text(text, 0);
        }
        text("p0 life if a10;>a11:f0 12y if a13;>a14:f0 15y if a16;>a17:f0 18y if a19;p0 life", 0);
    }

    private static void faults() {
        text("", -10);
        text("x", -10);
        text(">d0:p0 life", -10);
        text(";p0 life", -10);
        text("P0 life", -10);
        text("p", -11);
        text("p8 life", -11);
        text("f9 life", -11);
        text("c/ life", -11);
        text("p0", -12);
        text("p0life", -12);
        text("p0 ", -13);
        text("p0  life", -13);
        text("p0 y", -13);
        text("p0 lif", -16);
        text("p0 lofe", -14);
        text("p0 eve", -16);
        text("p0 efer", -14);
        text("p0 0", -14);
        text("p0 05y", -14);
        text("p0 00y", -14);
        text("p0 5", -14);
        text("p0 55", -15);
        text("p0 555y", -15);
        text("p0 5x", -14);
        text("p0 lifey", -17);
        text("p0 life ", -18);
        text("p0 life  if w", -18);
        text("p0 life;", -18);
        text("p0 life;;", -18);
        text("p0 life i", -19);
        text("p0 life of w", -18);
        text("p0 life if", -20);
        text("p0 life ifw", -20);
        text("p0 life if ", -21);
        text("p0 life if x", -21);
        text("p0 life if a", -22);
        text("p0 life if ax", -22);
        text("p0 life if a01", -23);
        text("p0 life if a100", -24);
        text("p0 life if w ", -22);
        text("p0 life if d4", -22);
        text("p0 life if d", -22);
        text("p0 life if d00", -23);
        text("p0 life if w if w", -22);
        text("p0 life;>", -19);
        text("p0 life;>x", -19);
        text("p0 life;>d", -20);
        text("p0 life;>d4:p0 life", -20);
        text("p0 life;>d0p0 life", -21);
        text("p0 life;>d0;p0 life", -21);
        text("p0 life;>d0:", -22);
        text("p0 life;>d0:>d1:p0 life", -22);
        text("p0 life;>a5", -21);
        text("p0 life;>a05:p0 life", -21);
        text("p0 life;>a555:p0 life", -22);
        text("p0 life\n", -17);
        text("p0 life\0", -17);
        text("p0 life" + (char) 255, -17);
        text("p" + (char) ('0' + 128) + " life", -11);
        text("p0 10y if a20;>a30:p1 40y if a5x", -10 - 31);
        text("p0 life if a10;>a11:f0 12y if a13;>a14:f0 15y if a16;>a17:f0 18y if a19;p0 lifex", -10 - 79);
        text("p0 life if a10;>a11:f0 12y if a13;>a14:f0 15y if a16;>a17:f0 18y if a19;p0 life;", -10 - 80);
    }

    private static void clausesAreSix() {
        LifeGrants x = new LifeGrants();
        CHECKS.grant(x, "p0 life;p1 life;p2 life;p3 life;p4 life;p5 life", 0);
        due("told(0, -1)", x.told(0, -1), 6);
        CHECKS.grant(x, "p0 life;p1 life;p2 life;p3 life;p4 life;p5 life;", -10 - 47);
        CHECKS.grant(x, "p0 life;p1 life;p2 life;p3 life;p4 life;p5 life;p6 life", -10 - 47);
        CHECKS.grant(x, "p0 life;p1 life;p2 life;p3 life;p4 life;p5 5y if a5", 1);
    }

    private static void grantsAreSix() {
        LifeGrants x = new LifeGrants();
        x.person(50, -1);
        for (int i = 0; i < 6; i++) {
            CHECKS.grant(x, "p0 " + i + "y", i);
        }
        Checks.feed(x, "bad");
        due("grant(): FULL ahead of a FAULT", x.grant(), FULL);
        due("THE TAPE stays", x.count(4), 3);
        due("count(2)", x.count(2), 6);
        due("told(5, 0)", x.told(5, 0), 5);
    }

    private static void tellings() {
        LifeGrants x = new LifeGrants();
        CHECKS.grant(x, "p0 12y if a34;>a56:p1 7y if a8;>d3:c2 life if d1;f3 0y;c5 ever if w", 0);
        due("told(0, -1)", x.told(0, -1), 5);
        due("told(0, -2)", x.told(0, -2), 6);
        int[] numbers = {12, 34, 56, 7, 8, 0};
        for (int i = 0; i < numbers.length; i++) {
            due("told(0, " + i + ")", x.told(0, i), numbers[i]);
        }
        due("told(0, 6)", x.told(0, 6), NONE);
        due("told(0, -3)", x.told(0, -3), NONE);
        due("told(0, MIN)", x.told(0, Integer.MIN_VALUE), NONE);
        due("told(0, MAX)", x.told(0, Integer.MAX_VALUE), NONE);
        due("told(1, -1)", x.told(1, -1), NONE);
        due("told(-1, -1)", x.told(-1, -1), NONE);
        CHECKS.grant(x, "p0 life", 1);
        due("told(1, -2)", x.told(1, -2), 0);
        due("told(1, 0)", x.told(1, 0), NONE);
        Checks.feed(x, "p0 99y if a1;x");
        due("grant() with a FAULT", x.grant(), -10 - 13);
        due("is none", x.told(2, -1), NONE);
        CHECKS.grant(x, "p0 ever", 2);
        due("nothing of it is left", x.told(2, -2), 0);
    }
}
