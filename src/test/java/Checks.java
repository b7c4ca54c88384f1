import java.nio.charset.StandardCharsets;

/** Counts the answers that are not due, and says them. */
final class Checks {
    private final String name;
    private String sentence = "";
    private int done;
    private int wrong;

    Checks(String name) {
        this.name = name;
    }

    /** The sentence of the document that the next checks are of. */
    void about(String text) {
        sentence = " [" + text + "]";
    }

    void due(String call, long got, long want) {
        done++;
        if (got != want) {
            wrong++;
            if (wrong <= 40) {
                System.out.println(name + ": " + call + " answered " + got + ", due is " + want + sentence);
            }
        }
    }

    /** Feeds a text and checks that it is the GRANT of that number (or what grant() shall answer). */
    void grant(LifeGrants x, String text, int want) {
        feed(x, text);
        due("grant() of '" + text + "'", x.grant(), want);
    }

    static void feed(LifeGrants x, String text) {
        byte[] bytes = text.getBytes(StandardCharsets.ISO_8859_1);
        for (int from = 0; from < bytes.length; from += 8) {
            int n = Math.min(8, bytes.length - from);
            long w = 0;
            for (int i = 0; i < n; i++) {
                w = w << 8 | bytes[from + i] & 255;
            }
            x.feed(w, n);
        }
    }

    boolean isSound() {
        return wrong == 0;
    }

    void end() {
        System.out.println(name + ": " + done + " answers, " + wrong + " not as due");
        if (wrong != 0) {
            System.exit(1);
        }
    }
}
