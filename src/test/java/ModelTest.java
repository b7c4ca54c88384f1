import java.util.Random;

/** Runs of calls, by numbers that are the same each time, on LifeGrants and on the Model. */
public final class ModelTest {
    // An object is promised for 512 calls; what is asked in one go stays below the room kept for it.
    private static final int RUNS = 1200, CALLS = 512, ROOM = 60;

    private final Checks checks = new Checks("ModelTest");
    private final Random numbers;
    private final LifeGrants x = new LifeGrants();
    private final Model model = new Model();
    private final StringBuilder told = new StringBuilder();
    private int calls;
    private final boolean isTame;
    // Everybody there at first may die soon, and children be left who take late.
    private final boolean isOfHeirs;

    private ModelTest(int seed) {
        numbers = new Random(seed);
        isTame = seed % 4 != 0;
        isOfHeirs = seed % 4 > 1;
    }

    public static void main(String[] args) {
        int runs = args.length > 0 ? Integer.parseInt(args[0]) : RUNS;
        for (int seed = 1; seed <= runs; seed++) {
            ModelTest test = new ModelTest(seed);
            test.go();
            if (!test.checks.isSound()) {
                System.out.println("run " + seed + ":\n" + test.told);
                System.exit(1);
            }
        }
        System.out.println("ModelTest: " + runs + " runs are as the model's");
    }

    private int to(int greatest) {
        return numbers.nextInt(greatest + 1);
    }

    /** Mostly 0 .. greatest, now and then one that is none such. */
    private int about(int greatest) {
        int chance = to(60);
        if (chance == 0) return -1;
        if (chance == 1) return greatest + 1;
        if (chance == 2) return numbers.nextInt();
        return greatest < 0 ? 0 : to(greatest);
    }

    private boolean isRoom() {
        return calls < CALLS - ROOM && checks.isSound();
    }

    private void due(String call, int got, int want) {
        if (++calls > CALLS) throw new IllegalStateException("too many calls: " + call);
        told.append(call).append(" = ").append(got).append('\n');
        checks.due(call, got, want);
    }

    private void go() {
        if (isOfHeirs) {
            heirs();
            for (int i = 0; i < 2; i++) {
                feed(lateText());
                due("grant()", x.grant(), model.grant());
                askAllLate(model.count(2) - 1);
            }
        }
        int persons = isOfHeirs ? 0 : isTame ? 1 + to(2) : to(8);
        for (int i = 0; i < persons; i++) person();
        int maybes = isTame ? 3 + to(3) : to(6);
        for (int i = 0; i < maybes * 2 && model.count(1) < maybes; i++) maybe();
        while (isRoom()) one();
    }

    private void heirs() {
        int persons = 1 + to(1);
        for (int i = 0; i < persons; i++) person();
        int births = 1 + to(1);
        for (int i = 0; i < births; i++) maybe(0, to(persons - 1), 1 + to(8));
        for (int i = 0; i < persons; i++) maybe(1, i, 2 + to(8));
        if (to(1) == 0) maybe(2 + to(1), to(1) == 0 ? 8 : to(3), 10 + to(30));
        while (to(2) == 0) maybe();
    }

    private void feed(String text) {
        for (int from = 0; from < text.length(); ) {
            int n = to(20) == 0 ? about(8) : Math.min(8, text.length() - from);
            long w = numbers.nextLong();
            for (int i = 0; i < n && i < 8; i++) w = w << 8 | (from + i < text.length() ? text.charAt(from + i) : 'x');
            due("feed(" + w + ", " + n + ")", x.feed(w, n), model.feed(w, n));
            from += n >= 1 && n <= 8 ? n : 0;
        }
    }

    private String lateText() {
        StringBuilder text = new StringBuilder("p" + to(1) + (to(1) == 0 ? " life" : " " + to(9) + "y"));
        int clauses = 1 + to(2);
        for (int i = 0; i < clauses; i++) {
            text.append(to(3) == 0 ? ";>d" + to(1) + ":" : ";").append("fc".charAt(to(1))).append(to(1)).append(' ');
            text.append(to(1) == 0 ? "ever" : to(20) + "y").append(" if ");
            text.append(to(3) == 0 ? "w" : to(3) == 0 ? "d" + to(1) : "a" + to(to(2) == 0 ? 40 : 12));
        }
        return text.toString();
    }

    private void askAllLate(int g) {
        int widest = 0;
        for (int n = 0; n <= 30 && isRoom(); n += 1 + to(4)) {
            for (int k = 0; k < model.told(g, -1); k++) {
                int answer = model.late(g, k, n, 0);
                if (answer == 1) widest = n;
                due("late(" + g + ", " + k + ", " + n + ", 0)", x.late(g, k, n, 0), answer);
                due("late(" + g + ", " + k + ", " + n + ", 1)", x.late(g, k, n, 1), model.late(g, k, n, 1));
                int c = to((1 << model.count(1)) - 1);
                due("see(" + g + ", " + k + ", " + c + ", " + n + ")", x.see(g, k, c, n), model.see(g, k, c, n));
            }
        }
        for (int i = 0; i < model.told(g, -2) && isRoom(); i++) {
            int n = Math.max(0, widest - 2 + to(4));
            due("mend(" + g + ", " + i + ", " + n + ")", x.mend(g, i, n), model.mend(g, i, n));
        }
        if (to(2) == 0) due("strike(" + g + ", " + widest + ")", x.strike(g, widest), model.strike(g, widest));
    }

    private void person() {
        int age = isTame ? to(90) : about(90);
        int parent = to(2) == 0 ? -1 : about(model.count(0) - 1);
        due("person(" + age + ", " + parent + ")", x.person(age, parent), model.person(age, parent));
    }

    private void maybe() {
        int kind = to(2) == 0 ? 1 : about(3);
        int who = kind == 3 ? about(3) : to(3) == 0 ? 8 + to(5) : about(model.count(0) - 1);
        maybe(kind, who, to(2) == 0 ? 1 + to(3) : about(40));
    }

    private void maybe(int kind, int who, int year) {
        due("maybe(" + kind + ", " + who + ", " + year + ")", x.maybe(kind, who, year), model.maybe(kind, who, year));
    }

    private String cond(boolean isShift) {
        int chance = to(9);
        if (isShift && chance > 0 || chance > 6) return "d" + to(3);
        if (isOfHeirs && chance > 1) return "a" + to(to(1) == 0 ? 40 : 12);
        return chance < 3 ? "w" : "a" + (to(2) == 0 ? to(99) : to(20));
    }

    private String clause(boolean isFirst) {
        StringBuilder text = new StringBuilder();
        if (!isFirst && to(2) == 0) text.append('>').append(cond(true)).append(':');
        text.append(isOfHeirs ? "pfcc".charAt(to(3)) : "pfc".charAt(to(2)));
        text.append(to(4) == 0 ? to(7) : to(isOfHeirs ? 1 : 2)).append(' ');
        int term = isOfHeirs && to(2) == 0 ? 0 : to(3);
        text.append(term == 0 ? "life" : term == 1 && to(1) == 0 ? "ever" : to(to(1) == 0 ? 5 : 30) + "y");
        if (to(isOfHeirs ? 1 : 2) == 0) text.append(" if ").append(cond(false));
        return text.toString();
    }

    private String text() {
        StringBuilder text = new StringBuilder();
        int clauses = 1 + to(to(4) == 0 ? 7 : 4);
        for (int i = 0; i < clauses; i++) text.append(i == 0 ? "" : ";").append(clause(i == 0));
        if (to(7) == 0) {
            int place = to(text.length() - 1);
            String signs = " 0123456789adefilpwy:;>\n\0" + (char) 255;
            String sign = "" + signs.charAt(to(signs.length() - 1));
            int chance = to(3);
            if (chance == 0) text.setLength(place);
            else if (chance == 1) text.insert(place, sign);
            else if (chance == 2) text.deleteCharAt(place);
            else text.replace(place, place + 1, sign);
        }
        return text.toString();
    }

    private void tape() {
        feed(text());
        if (to(30) > 0) due("grant()", x.grant(), model.grant());
    }

    private int grant() {
        return about(model.count(2) - 1);
    }

    private int clause(int grant) {
        return about(Math.max(0, model.told(grant, -1) - 1));
    }

    private int course() {
        return about((1 << model.count(1)) - 1);
    }

    private void one() {
        int chance = to(199);
        if (chance == 0) person();
        else if (chance == 1) maybe();
        else if (chance < 8) tape();
        else if (chance == 8) due("image()", x.image(), model.image());
        else if (chance < 14) due("undo()", x.undo(), model.undo());
        else if (chance < 60) ask();
        else if (chance < 130) late();
        else if (chance < 160) act();
        else rest();
    }

    private void ask() {
        int g = grant();
        int c = course();
        int y = about(40);
        int k = clause(g);
        int p = about(13);
        int w = about(2);
        due("life(" + p + ", " + c + ", " + y + ", " + w + ")", x.life(p, c, y, w), model.life(p, c, y, w));
        due("has(" + g + ", " + c + ", " + y + ", " + w + ")", x.has(g, c, y, w), model.has(g, c, y, w));
        due("began(" + g + ", " + k + ", " + c + ")", x.began(g, k, c), model.began(g, k, c));
        due("sure(" + g + ", " + k + ", " + w + ")", x.sure(g, k, w), model.sure(g, k, w));
        due("holders(" + g + ", " + w + ")", x.holders(g, w), model.holders(g, w));
        due("share(" + g + ", " + p + ", " + c + ", " + y + ")", x.share(g, p, c, y), model.share(g, p, c, y));
    }

    private void late() {
        int g = grant();
        int k = clause(g);
        int n = to(1) == 0 ? to(5) : about(40);
        int c = course();
        int w = about(1);
        int i = about(model.told(g, -2) - 1);
        due("late(" + g + ", " + k + ", " + n + ", " + w + ")", x.late(g, k, n, w), model.late(g, k, n, w));
        due("measure(" + c + ")", x.measure(c), model.measure(c));
        due("see(" + g + ", " + k + ", " + c + ", " + n + ")", x.see(g, k, c, n), model.see(g, k, c, n));
        if (to(4) == 0) due("mend(" + g + ", " + i + ", " + n + ")", x.mend(g, i, n), model.mend(g, i, n));
        if (to(6) == 0) due("strike(" + g + ", " + n + ")", x.strike(g, n), model.strike(g, n));
    }

    private void act() {
        int g = grant();
        int k = clause(g);
        int a = about(2);
        int v = to(1) == 0 ? to(9) : numbers.nextInt();
        due("act(" + g + ", " + k + ", " + a + ", " + v + ")", x.act(g, k, a, v), model.act(g, k, a, v));
        for (int i = -1; i < 8; i++) due("trace(" + i + ")", x.trace(i), model.trace(i));
        int kind = about(6);
        due("as(" + g + ", " + k + ", " + kind + ")", x.as(g, k, kind), model.as(g, k, kind));
    }

    private void rest() {
        int g = grant();
        int h = grant();
        int c = course();
        int y = about(40);
        int i = about(model.told(g, -2)) - to(2);
        int set = to(20) == 0 ? -1 : to(5) == 0 ? about(16383) : Math.max(0, model.has(g, c, model.count(3), 0));
        due("told(" + g + ", " + i + ")", x.told(g, i), model.told(g, i));
        due("row(" + set + ")", x.row(set), model.row(set));
        due("judged(" + g + ", " + c + ")", x.judged(g, c), model.judged(g, c));
        due("both(" + g + ", " + h + ", " + c + ", " + y + ")", x.both(g, h, c, y), model.both(g, h, c, y));
        due("clash(" + g + ", " + h + ", " + c + ")", x.clash(g, h, c), model.clash(g, h, c));
        due("same(" + g + ", " + h + ")", x.same(g, h), model.same(g, h));
        int w = about(5);
        due("count(" + w + ")", x.count(w), model.count(w));
    }
}
