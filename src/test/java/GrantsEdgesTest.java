import java.io.IOException;

/** Promises 5 to 7 and how a GRANT is read, sentence by sentence: each byte at each place, and what is first beyond. */
public final class GrantsEdgesTest extends Edges {
    private static final String DIGITS = "0123456789", PEOPLE = "01234567", DEEDS = "0123";
    private static final String WHO = "pfc", TERM = "le" + DIGITS, COND = "awd";

    public static void main(String[] args) throws IOException {
        begin("GrantsEdgesTest");
        bytesOfAFeed();
        lowestBytesHighestFirst();
        behindTheTapes();
        theTapeIsFull();
        eightyBytesAreRead();
        theTapeIsEmptyThen();
        fullAheadOfAll();
        sixClauses();
        signs();
        endsTooEarly();
        partsOfAClause();
        numbersOfYears();
        numbersOfAges();
        digits();
        sixGrants();
        personsNeedNotBeThere();
        numbersAsTheyStand();
        told();
        checks.end();
    }

    private static void bytesOfAFeed() {
        says("BAD: n not 1 .. 8; FULL.");
        Asked x = asked();
        for (String n : new String[] {"0", "9", "-1", "MIN", "MAX"}) {
            x.due("feed(0x70, " + n + ")", BAD).due("count(4)", 0);
        }
        int has = 0;
        for (int n = 1; n <= 8; n++) {
            has += n;
            x.due("feed(0, " + n + ")", has).due("count(4)", has);
        }
    }

    private static void lowestBytesHighestFirst() {
        says("The n lowest bytes of w, the highest first, come behind THE TAPE's: how many it has.");
        asked().does("feed(0x7030206c6966653b, 8)", "feed(0x6331206576657221, 7)").due("grant()", -10 - 8);
        asked().does("feed(0x7030206c6966653b, 8)", "feed(0x6331206576657200, 8)").due("grant()", -10 - 15);
        asked().does("feed(0x7030206c6966653b, 8)", "feed(0x0063312065766572, 7)").due("grant()", 0);
        asked().does("feed(0x7030206c6966653b, 8)", "feed(0x0063312065766572, 8)").due("grant()", -10 - 8);
        String text = "p0 life if d3";
        for (int n = 1; n <= 7; n++) {
            Asked x = asked();
            for (int from = 0; from < text.length(); from += n) {
                int size = Math.min(n, text.length() - from);
                long w = -1L;
                for (int i = 0; i < size; i++) {
                    w = w << 8 | text.charAt(from + i);
                }
                x.due("feed(" + w + ", " + size + ")", from + size);
            }
            x.due("grant()", 0).due("told(0, -1)", 1).due("as(0, 0, 0)", 1);
        }
        asked().due("feed(MIN, 8)", 8).due("feed(MAX, 8)", 16).due("feed(-1, 1)", 17).due("grant()", -10);
        asked().feed("p0").due("feed(-1, 1)", 3).due("grant()", -12);
    }

    private static void behindTheTapes() {
        says("come behind THE TAPE's: how many it has.");
        Asked x = asked("person(50, -1)").feed("p").feed("0").feed(" 5").feed("y;p0 ev").feed("er");
        x.due("count(4)", 13).due("grant()", 0).due("told(0, -1)", 2).due("told(0, 0)", 5).due("count(4)", 0);
        x.feed("p0 12y").due("grant()", 1).due("told(1, 0)", 12);
    }

    private static void theTapeIsFull() {
        says("THE TAPE (bytes, 80 at most)");
        for (int size = 72; size <= 80; size++) {
            for (int n = 1; n <= 8; n++) {
                Asked x = asked().feed("p0 life;".repeat(5).concat("p0 life ".repeat(5)).substring(0, size));
                boolean isRoom = size + n <= 80;
                x.due("feed(0, " + n + ")", isRoom ? size + n : FULL).due("count(4)", isRoom ? size + n : size);
                x.due("feed(0, 9)", BAD).due("feed(0, 0)", BAD).due("grant()", -10 - 48);
            }
        }
    }

    private static void eightyBytesAreRead() {
        says("A GRANT is read from THE TAPE (bytes, 80 at most)");
        String most = "p0 12y if a10;>a11:f0 12y if a13;>a14:f0 life if a16;>a17:f0 life if a19;p0 life";
        checks.due("its size", most.length(), 80);
        Asked x = asked().feed(most).due("count(4)", 80).due("feed(0, 1)", FULL).due("grant()", 0);
        x.due("told(0, -1)", 5).due("told(0, 9)", NONE).due("told(0, 8)", 19).due("count(4)", 0);
        asked().grant(most.substring(0, 79), -10 - 79).grant(most.substring(0, 79) + "x", -10 - 79);
        String early = most.substring(0, 73) + "p0 12y ";
        checks.due("its size", early.length(), 80);
        asked().grant(early, -10 - 80).grant(early.substring(0, 79), 0);
    }

    private static void theTapeIsEmptyThen() {
        says("THE TAPE, which is empty then (by a FAULT, too), is a GRANT: its number; -10 less the FAULT.");
        Asked x = asked().feed("p0 life").due("grant()", 0).due("count(4)", 0).due("grant()", -10).due("count(4)", 0);
        x.feed("p0 lifx").due("grant()", -16).due("count(4)", 0).due("count(2)", 1).feed("p0 ").due("grant()", -13);
        x.feed("life").due("grant()", -10).due("count(4)", 0).grant("p1 ever", 1).due("count(2)", 2);
    }

    private static void fullAheadOfAll() {
        says("FULL (ahead of all; THE TAPE stays).");
        Asked x = asked();
        for (int g = 0; g < 6; g++) {
            x.grant("p" + g + " life", g);
        }
        x.due("grant()", FULL).due("count(4)", 0).feed("p0 life").due("grant()", FULL).due("count(4)", 7);
        x.feed("x").due("grant()", FULL).due("count(4)", 8).due("count(2)", 6).due("told(6, -1)", NONE);
        for (int i = 0; i < 9; i++) {
            x.feed("p0 life;");
        }
        x.due("count(4)", 80).due("grant()", FULL).due("count(4)", 80).due("feed(0, 1)", FULL);
        Asked last = asked();
        for (int g = 0; g < 5; g++) {
            last.grant("p" + g + " life", g);
        }
        last.feed("p5 life").due("image()", 0).due("grant()", 5).due("count(4)", 0).feed("p6 life").due("grant()", FULL);
        last.due("undo()", 0).due("count(4)", 7).due("grant()", 5);
    }

    private static void sixClauses() {
        says("CLAUSES, 6 at most, with ; between");
        StringBuilder text = new StringBuilder("p0 0y");
        for (int clauses = 1; clauses <= 6; clauses++) {
            asked().grant(text.toString(), 0).due("told(0, -1)", clauses).due("began(0, " + (clauses - 1) + ", 0)", NOT)
                .due("began(0, " + clauses + ", 0)", NONE);
            asked().grant(text + ";", -10 - text.length() - (clauses < 6 ? 1 : 0));
            asked().grant(text + ";;p0 0y", -10 - text.length() - (clauses < 6 ? 1 : 0));
            text.append(clauses == 2 ? ";>d0:p0 0y" : ";p0 0y");
        }
        asked().grant(text.toString(), -10 - text.lastIndexOf(";"));
    }

    /**
     * Holds each of the 256 bytes at each place of a text against those with which it can go on there:
     * of others the place is the FAULT, of these the end (or it is a GRANT).
     */
    private static void signsOf(String text, String... fit) {
        checks.due("places of '" + text + "'", fit.length, text.length());
        for (int place = 0; place < text.length(); place++) {
            String ahead = text.substring(0, place);
            checks.due("'" + text + "' at " + place, fit[place].indexOf(text.charAt(place)) >= 0 ? 1 : 0, 1);
            for (char sign = 0; sign < 256; sign++) {
                int answer = asked().feed(ahead + sign).call("grant()");
                boolean goesOn = fit[place].indexOf(sign) >= 0;
                int fault = answer == 0 ? place + 1 : -10 - answer;
                checks.due("FAULT of '" + ahead + "' and byte " + (int) sign, fault, goesOn ? place + 1 : place);
                checks.due("FAULT with more behind", asked().feed(ahead + sign + "\n").call("grant()"), -10 - (goesOn ? place + 1 : place));
            }
        }
    }

    private static void signs() {
        says("FAULT: the place of the first byte with which no GRANT can go on (the size, if it ends too early).");
        signsOf("p0 life if w;c1 ever", WHO, PEOPLE, " ", TERM, "i", "f", "e", " ;", "i", "f", " ", COND, ";",
            WHO + ">", PEOPLE, " ", TERM, "v", "e", "r");
        signsOf("f7 99y if a99;>a99:p0 0y", WHO, PEOPLE, " ", TERM, DIGITS + "y", "y", " ;", "i", "f", " ", COND, DIGITS,
            DIGITS + ";", ";", WHO + ">", COND, DIGITS, DIGITS + ":", ":", WHO, PEOPLE, " ", TERM, "y");
        signsOf("c0 10y;>d3:f1 5y if d0;>w:c2 life", WHO, PEOPLE, " ", TERM, DIGITS + "y", "y", " ;", WHO + ">", COND, DEEDS,
            ":", WHO, PEOPLE, " ", TERM, DIGITS + "y", " ;", "i", "f", " ", COND, DEEDS, ";", WHO + ">", COND, ":",
            WHO, PEOPLE, " ", TERM, "i", "f", "e");
        signsOf("p0 0y if a0;>a0:p0 ever;p", WHO, PEOPLE, " ", TERM, "y", " ;", "i", "f", " ", COND, DIGITS, ";",
            WHO + ">", COND, DIGITS, ":", WHO, PEOPLE, " ", TERM, "v", "e", "r", " ;", WHO + ">");
    }

    private static void endsTooEarly() {
        says("(the size, if it ends too early)");
        prefixes("p0 12y if a34;>d0:f1 life if w;>a5:c2 ever if d3", 6, 12, 13, 25, 30, 42, 48);
        prefixes("c7 0y;p1 life;>a99:f2 9y if a0", 5, 13, 24, 30);
        prefixes("f3 ever if w;>w:p4 99y if a9;c0 10y", 7, 12, 22, 28, 35);
    }

    /** Of all beginnings of a text those of these sizes are GRANTS; all others end too early. */
    private static void prefixes(String text, int... sizes) {
        for (int size = 0; size <= text.length(); size++) {
            int want = -10 - size;
            for (int whole : sizes) {
                want = whole == size ? 0 : want;
            }
            asked().grant(text.substring(0, size), want);
        }
    }

    private static void partsOfAClause() {
        says("perhaps > and a COND and : (it is a SHIFT; not the first one); then WHO; a blank; HOW LONG; perhaps a blank, if, a blank, COND.");
        asked().grant(">d0:p0 life", -10).grant(">", -10).grant("p0 life;>d0:p0 life", 0).grant("p0 life;p0 life", 1).grant(";p0 life", -10);
        asked().grant("p0 life;>>d0:p0 life", -19).grant("p0 life;>d0>d0:p0 life", -21).grant("p0 life;d0:p0 life", -18).grant("p0 life;>:p0 life", -19);
        asked().grant("p0 life;> d0:p0 life", -19).grant("p0 life;>d0: p0 life", -22).grant("p0 life; p0 life", -18).grant(" p0 life", -10);
        asked().grant("p0  life", -13).grant("p0life", -12).grant("p0 life  if w", -18).grant("p0 lifeif w", -17).grant("p0 life if  w", -21);
        asked().grant("p0 life ifw", -20).grant("p0 life w", -18).grant("p0 life if", -20).grant("p0 life if w ", -22).grant("p0 life ", -18);
        asked().grant("p0 ever if w if w", -22).grant("p0 9y;>w:c1 0y if w;>a0:f2 99y if a99;>d3:p3 ever if d0", 0).due("told(0, -1)", 4).due("told(0, -2)", 5);
        says("HOW LONG: life, ever, or a number (1 or 2 digits, no 0 ahead of another) and y");
        asked().grant("p0 live", -15).grant("p0 lever", -14).grant("p0 ev", -15).grant("p0 evry", -15).grant("p0 LIFE", -13).grant("p0 lifer", -17).grant("p0 everr", -17);
    }

    private static void numbersOfYears() {
        says("a number (1 or 2 digits, no 0 ahead of another) and y");
        for (int n = 0; n <= 99; n++) {
            asked().grant("p0 " + n + "y", 0).due("told(0, 0)", n).due("told(0, -2)", 1);
        }
        for (int n = 0; n <= 9; n++) {
            asked().grant("p0 0" + n + "y", -14);
        }
        asked().grant("p0 100y", -15).grant("p0 999y", -15).grant("p0 y", -13).grant("p0 -1y", -13);
        asked().grant("p0 1 y", -14).grant("p0 10 y", -15).grant("p0 0 y", -14).grant("p0 9", -14).grant("p0 99", -15);
    }

    private static void numbersOfAges() {
        says("COND: a and a number likewise (reaches that AGE); w (has wed); d and a digit 0 .. 3 (DEED done).");
        for (int n = 0; n <= 99; n++) {
            asked().grant("p0 life if a" + n, 0).due("told(0, 0)", n).due("told(0, -2)", 1);
            asked().grant("p0 life;>a" + n + ":p0 life", 0).due("told(0, 0)", n).due("told(0, -2)", 1);
        }
        for (int n = 0; n <= 9; n++) {
            asked().grant("p0 life if a0" + n, -23).grant("p0 life;>a0" + n + ":p0 life", -21);
        }
        asked().grant("p0 life if a100", -24).grant("p0 life;>a100:p0 life", -22).grant("p0 life if a", -22);
        asked().grant("p0 life;>a:p0 life", -20).grant("p0 life if a-1", -22).grant("p0 life if a ", -22);
        asked().grant("p0 life if w0", -22).grant("p0 life;>w0:p0 life", -20).grant("p0 life if d", -22);
    }

    private static void digits() {
        says("WHO: p and a digit 0 .. 7 (that PERSON); f and a digit (the first child of that one); c and a digit (all its children).");
        for (char who : WHO.toCharArray()) {
            for (int digit = 0; digit <= 9; digit++) {
                asked().grant(who + "" + digit + " life", digit <= 7 ? 0 : -11);
                asked().grant("p0 life;" + who + digit + " life", digit <= 7 ? 0 : -19);
            }
            asked().grant(who + "07 life", -12).grant(who + " life", -11).grant(who + "/ life", -11).grant(who + ": life", -11);
        }
        says("d and a digit 0 .. 3 (DEED done)");
        for (int digit = 0; digit <= 9; digit++) {
            asked().grant("p0 life if d" + digit, digit <= 3 ? 0 : -22);
            asked().grant("p0 life;>d" + digit + ":p0 life", digit <= 3 ? 0 : -20);
        }
        asked().grant("p0 life if d03", -23).grant("p0 life if d/", -22).grant("p0 life if d:", -22);
    }

    private static void sixGrants() {
        says("GRANTS are numbered from 0 on, 6 at most.");
        Asked x = asked();
        for (int g = 0; g < 6; g++) {
            x.due("count(2)", g).due("told(" + g + ", -1)", NONE).grant("p0 lif", -16).grant("p0 " + (10 + g) + "y", g);
        }
        x.feed("p0 life").due("grant()", FULL).due("count(2)", 6).due("told(6, -1)", NONE);
        for (int g = 0; g < 6; g++) {
            x.due("told(" + g + ", 0)", 10 + g);
        }
    }

    private static void personsNeedNotBeThere() {
        says("(PERSONS need not be there: one that is not is never ALIVE, and has no children.)");
        Asked x = asked().grant("p7 ever;f7 ever;c7 ever;p0 ever", 0).grant("p0 ever", 1);
        x.has(0, 0, 0, 40, 0, NOT).has(1, 0, 0, 0, 0, NOT).due("began(0, 3, 0)", NOT).due("holders(0, 0)", 0);
        x.does("person(50, -1)").has(0, 0, 0, 0, 1, 3).due("began(0, 3, 0)", 0).due("began(0, 2, 0)", NOT).has(1, 0, 0, 0, 1, 0);
        Asked y = asked("person(90, -1)");
        for (int p = 1; p < 7; p++) {
            y.does("person(60, -1)");
        }
        y.grant("p7 life;p0 life", 0).grant("f0 life if a50;c0 life;p1 life", 1).has(0, 0, 0, 0, 1, 1).has(1, 0, 0, 40, 0, NOT);
        y.does("person(59, 0)").has(0, 0, 0, 40, 128, 0).has(1, 0, 0, 40, 128, 0);
    }

    private static void numbersAsTheyStand() {
        says("Its NUMBERS are those of COND a and of y, as they stand, from 0 on.");
        String text = "p0 1y if a2;>a3:p4 5y if a6;>a7:p0 8y if a9;>a10:p0 11y;>a12:p1 life;>d3:p2 0y";
        Asked x = asked().grant(text, 0).due("told(0, -1)", 6).due("told(0, -2)", 12);
        int[] numbers = {1, 2, 3, 5, 6, 7, 8, 9, 10, 11, 12, 0};
        for (int i = 0; i < numbers.length; i++) {
            x.due("told(0, " + i + ")", numbers[i]);
        }
        x.due("told(0, 12)", NONE);
        Asked most = asked().grant("p0 1y if a2;>a3:p0 4y if a5;>a6:p0 7y if a8;>a9:p0 0y if a1;>a2:p0 3y;>a4:p0 5y", 0);
        most.due("told(0, -1)", 6).due("told(0, -2)", 15).due("told(0, 14)", 5).due("told(0, 15)", NONE);
        Asked none = asked().grant("p7 life if d3;>d2:f6 ever if w;>w:c5 life", 0);
        none.due("told(0, -1)", 3).due("told(0, -2)", 0).due("told(0, 0)", NONE);
    }

    private static void told() {
        says("Of a GRANT: i -1 how many CLAUSES, -2 how many NUMBERS; else NUMBER i. NONE.");
        Asked x = asked();
        for (String grant : new String[] {"-1", "0", "5", "6", "MIN", "MAX"}) {
            x.due("told(" + grant + ", -1)", NONE).due("told(" + grant + ", -2)", NONE).due("told(" + grant + ", 0)", NONE);
        }
        x.grant("p0 12y if a34;p1 life", 0).due("told(0, -1)", 2).due("told(0, -2)", 2).due("told(0, 0)", 12).due("told(0, 1)", 34);
        for (String i : new String[] {"-3", "2", "MIN", "MAX"}) {
            x.due("told(0, " + i + ")", NONE);
        }
        for (String grant : new String[] {"-1", "1", "MIN", "MAX"}) {
            x.due("told(" + grant + ", 0)", NONE);
        }
    }
}
