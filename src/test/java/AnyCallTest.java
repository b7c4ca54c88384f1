import java.util.Random;

/**
 * Calls with numbers of any size in any state: none throws, each answers as the Model, and what is
 * refused changes nothing, as the answers behind it show.
 */
public final class AnyCallTest {
    // A call, and behind it all of count().
    private static final int RUNS = 400, COUNTED = 7;
    private static final Checks CHECKS = new Checks("AnyCallTest");
    private static final int[] EDGES = {
        Integer.MIN_VALUE, Integer.MIN_VALUE + 1, -101, -11, -6, -5, -4, -3, -2, -1, 0, 1, 2, 3, 4, 5, 6, 7, 8, 9,
        12, 13, 14, 20, 21, 31, 32, 40, 41, 42, 63, 64, 80, 81, 90, 91, 99, 100, 255, 256, 16383, 16384,
        Integer.MAX_VALUE - 1, Integer.MAX_VALUE,
    };

    private final Random numbers;
    private final LifeGrants x = new LifeGrants();
    private final Model model = new Model();
    private int calls;

    private AnyCallTest(int seed) {
        numbers = new Random(seed);
    }

    public static void main(String[] args) {
        for (int seed = 0; seed < RUNS; seed++) {
            AnyCallTest test = new AnyCallTest(seed);
            test.fill(seed % 3);
            while (test.calls + COUNTED <= Asked.MOST_CALLS) {
                test.one();
            }
        }
        CHECKS.end();
    }

    private int any() {
        return numbers.nextInt(5) < 2 ? EDGES[numbers.nextInt(EDGES.length)] : numbers.nextInt(6);
    }

    private void due(int got, int want) {
        calls++;
        CHECKS.due("a call", got, want);
    }

    /** Nothing, something or all that there is room for. */
    private void fill(int much) {
        for (int i = 0; i < much * 4; i++) {
            due(x.person(60 - i, i - 1), model.person(60 - i, i - 1));
        }
        for (int i = 0; i < much * 3; i++) {
            due(x.maybe(i % 4, i % 4 == 3 ? 1 : i % 3, 5 + i), model.maybe(i % 4, i % 4 == 3 ? 1 : i % 3, 5 + i));
        }
        for (int i = 0; i < much * 3; i++) {
            String text = "p" + i + " 9y;c0 life;>d1:f1 7y if a9;p2 ever if w;c1 5y if d0;p0 ever";
            Checks.feed(x, text);
            calls += (text.length() + 7) / 8;
            for (int k = 0; k < text.length(); k++) {
                model.feed(text.charAt(k), 1);
            }
            due(x.grant(), model.grant());
        }
    }

    private void one() {
        int a = any();
        int b = any();
        int c = any();
        int d = any();
        long w = numbers.nextLong();
        switch (numbers.nextInt(27)) {
            case 0: due(x.person(a, b), model.person(a, b)); break;
            case 1: due(x.maybe(a, b, c), model.maybe(a, b, c)); break;
            case 2: due(x.life(a, b, c, d), model.life(a, b, c, d)); break;
            case 3: due(x.feed(w, a), model.feed(w, a)); break;
            case 4: due(x.grant(), model.grant()); break;
            case 5: due(x.told(a, b), model.told(a, b)); break;
            case 6: due(x.has(a, b, c, d), model.has(a, b, c, d)); break;
            case 7: due(x.began(a, b, c), model.began(a, b, c)); break;
            case 8: due(x.sure(a, b, c), model.sure(a, b, c)); break;
            case 9: due(x.holders(a, b), model.holders(a, b)); break;
            case 10: due(x.share(a, b, c, d), model.share(a, b, c, d)); break;
            case 11: due(x.judged(a, b), model.judged(a, b)); break;
            case 12: due(x.row(a), model.row(a)); break;
            case 13: due(x.late(a, b, c, d), model.late(a, b, c, d)); break;
            case 14: due(x.measure(a), model.measure(a)); break;
            case 15: due(x.see(a, b, c, d), model.see(a, b, c, d)); break;
            case 16: due(x.strike(a, b), model.strike(a, b)); break;
            case 17: due(x.mend(a, b, c), model.mend(a, b, c)); break;
            case 18: due(x.both(a, b, c, d), model.both(a, b, c, d)); break;
            case 19: due(x.clash(a, b, c), model.clash(a, b, c)); break;
            case 20: due(x.same(a, b), model.same(a, b)); break;
            case 21: due(x.act(a, b, c, d), model.act(a, b, c, d)); break;
            case 22: due(x.trace(a), model.trace(a)); break;
            case 23: due(x.as(a, b, c), model.as(a, b, c)); break;
            case 24: due(x.image(), model.image()); break;
            case 25: due(x.undo(), model.undo()); break;
            default: due(x.count(a), model.count(a)); break;
        }
        for (int what = 0; what < 6; what++) {
            due(x.count(what), model.count(what));
        }
    }
}
