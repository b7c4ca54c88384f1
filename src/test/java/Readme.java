import java.io.IOException;
import java.nio.file.Files;
import java.nio.file.Path;
import java.util.ArrayList;
import java.util.List;
import java.util.regex.Matcher;
import java.util.regex.Pattern;

/** README.md as its parts; and a program of its examples, a script of its commands, with what is due. */
final class Readme {
    static final Path FILE = Path.of("README.md");

    /** A line of an example that says what its call answers. */
    static final Pattern ANSWERED = Pattern.compile("x\\.(\\w+)\\((.*)\\); +// (-?\\d+)(?:: .+)?");
    private static final Pattern SAYING = Pattern.compile("(\\S.*?) +# (.+)");
    private static final String MADE = "LifeGrants x = new LifeGrants();";

    private final List<String> lines;

    Readme() throws IOException {
        lines = Files.readAllLines(FILE);
    }

    /** Writes the program ("java") or the script ("sh"), as .ci/run asks. */
    public static void main(String[] args) throws IOException {
        boolean isScript = args.length > 0 && args[0].equals("sh");
        System.out.print(isScript ? new Readme().script() : new Readme().program());
    }

    String text() {
        return String.join("\n", lines);
    }

    /** The blocks of a language, each its lines. */
    List<List<String>> blocks(String language) {
        List<List<String>> blocks = new ArrayList<>();
        boolean isInside = false;
        for (String line : lines) {
            if (line.equals("```" + language)) {
                blocks.add(new ArrayList<>());
                isInside = true;
            } else if (line.startsWith("```")) {
                isInside = false;
            } else if (isInside) {
                blocks.get(blocks.size() - 1).add(line);
            }
        }
        return blocks;
    }

    /** The rows of the table whose head begins so, each its cells. */
    List<List<String>> table(String head) {
        List<List<String>> rows = new ArrayList<>();
        int at = 0;
        while (at < lines.size() && !lines.get(at).startsWith("| " + head + " |")) {
            at++;
        }
        for (int i = at + 2; i < lines.size() && lines.get(i).startsWith("|"); i++) {
            List<String> cells = new ArrayList<>();
            for (String cell : lines.get(i).substring(1).split("\\|")) {
                cells.add(cell.trim());
            }
            rows.add(cells);
        }
        return rows;
    }

    static boolean isHelper(List<String> block) {
        return !block.isEmpty() && block.get(0).startsWith("static ");
    }

    static boolean isNewObject(List<String> block) {
        return !block.isEmpty() && block.get(0).equals(MADE);
    }

    private String program() {
        StringBuilder helpers = new StringBuilder();
        StringBuilder body = new StringBuilder();
        for (List<String> block : blocks("java")) {
            if (isHelper(block)) {
                helpers.append(String.join("\n", block)).append("\n\n");
                continue;
            }
            if (isNewObject(block)) {
                body.append(body.length() == 0 ? "{\n" : "}\n{\n");
            }
            for (String line : block) {
                body.append(checked(line)).append('\n');
            }
        }
        return "public final class ReadmeProgram {\n"
            + "static Checks checks = new Checks(\"README.md\");\n\n"
            + helpers
            + "public static void main(String[] args) {\n" + body + "}\nchecks.end();\n}\n}\n";
    }

    private static String checked(String line) {
        Matcher matcher = ANSWERED.matcher(line);
        if (!matcher.matches()) {
            return line;
        }
        String call = matcher.group(1) + "(" + matcher.group(2) + ")";
        return "checks.due(\"" + call + "\", x." + call + ", " + matcher.group(3) + ");";
    }

    private String script() {
        StringBuilder script = new StringBuilder("set -eu\n");
        script.append("due() { [ \"$3\" = \"$2\" ] || { echo \"README.md: $1 says: $3, due is: $2\"; exit 1; }; }\n");
        for (List<String> block : blocks("sh")) {
            for (String line : block) {
                Matcher matcher = SAYING.matcher(line);
                if (matcher.matches()) {
                    String said = "\"$(" + matcher.group(1) + ")\"";
                    script.append("due \"" + matcher.group(1) + "\" \"" + matcher.group(2) + "\" " + said + "\n");
                } else if (!line.equals(".ci/run")) {
                    script.append(line).append('\n');
                }
            }
        }
        return script.toString();
    }
}
