import java.io.IOException;
import java.lang.reflect.Method;
import java.lang.reflect.Modifier;
import java.nio.file.Files;
import java.nio.file.Path;
import java.util.ArrayList;
import java.util.HashSet;
import java.util.List;
import java.util.Set;
import java.util.TreeSet;
import java.util.regex.Matcher;
import java.util.regex.Pattern;
import java.util.stream.Stream;

/**
 * README.md tells what the document and the class are. That its examples answer and its commands say
 * what stands behind them is seen by .ci/run, with what Readme writes.
 */
public final class ReadmeTest {
    private static final Checks CHECKS = new Checks("ReadmeTest");
    private static final Path DOCUMENT = Path.of("../shared/DOC.md");
    private static final Path TESTS = Path.of("src/test/java");
    private static final int PROMISES = 28;
    private static final List<String> REFUSALS = List.of("NONE", "BAD", "STATE", "FULL");

    private final Readme readme = new Readme();
    private final List<List<String>> calls = readme.table("call");

    private ReadmeTest() throws IOException {
    }

    public static void main(String[] args) throws IOException {
        CHECKS.about("README.md is there");
        is("README.md is there", Files.exists(Readme.FILE));
        if (Files.exists(Readme.FILE)) {
            new ReadmeTest().all();
        }
        CHECKS.end();
    }

    private void all() throws IOException {
        howOneIsMade();
        whatItsCallsAre();
        inWhatOrder();
        refusals();
        otherNumbers();
        refusalsOfCalls();
        answersAreTold();
        howToRunTests();
        inside();
    }

    private static void is(String what, boolean isSo) {
        CHECKS.due(what, isSo ? 1 : 0, 1);
    }

    private static void same(String what, Object got, Object want) {
        is(what + ": " + got + ", in truth " + want, got.equals(want));
    }

    private static List<String> found(String pattern, String text) {
        List<String> all = new ArrayList<>();
        Matcher matcher = Pattern.compile(pattern).matcher(text);
        while (matcher.find()) {
            all.add(matcher.group(matcher.groupCount() == 0 ? 0 : 1));
        }
        return all;
    }

    private void howOneIsMade() {
        CHECKS.about("how one is made");
        is("a section", readme.text().contains("\n## How one is made\n"));
        List<List<String>> blocks = readme.blocks("java");
        is("the first example makes one", !blocks.isEmpty() && Readme.isNewObject(blocks.get(0)));
        is("for how long it is used", readme.text().contains("at most 512 calls"));
    }

    /** As the document's face has them: name(first, second, ..). */
    private static List<String> face() throws IOException {
        List<String> face = new ArrayList<>();
        for (String call : found("public int (\\w+\\([^)]*\\));", Files.readString(DOCUMENT))) {
            face.add(call.replaceAll("\\b(int|long) ", ""));
        }
        return face;
    }

    private static Set<String> publicNames() {
        Set<String> names = new TreeSet<>();
        for (Method method : LifeGrants.class.getDeclaredMethods()) {
            if (Modifier.isPublic(method.getModifiers())) {
                names.add(method.getName());
            }
        }
        return names;
    }

    private static String nameOf(String call) {
        return call.substring(0, call.indexOf('('));
    }

    private void whatItsCallsAre() throws IOException {
        CHECKS.about("what its calls are");
        List<String> told = new ArrayList<>();
        Set<String> names = new TreeSet<>();
        for (List<String> row : calls) {
            String call = row.get(0).replace("`", "");
            told.add(call);
            names.add(nameOf(call));
            is(call + " tells its answer", row.size() >= 2 && !row.get(1).isEmpty());
        }
        same("the calls told", names, publicNames());
        if (Files.exists(DOCUMENT)) {
            same("the calls told", told, face());
        }
    }

    /** The calls stand in the steps as they stand in the table, and each step shows its own. */
    private void inWhatOrder() {
        CHECKS.about("in what order they are of use");
        List<String> inSteps = new ArrayList<>();
        for (String step : readme.text().split("\n(?=##)")) {
            if (!step.startsWith("### ")) {
                continue;
            }
            String heading = step.substring(0, step.indexOf('\n'));
            List<String> ofStep = found("`(\\w+)`", heading);
            inSteps.addAll(ofStep);
            for (String name : ofStep) {
                is(name + " is shown in " + heading, !found("(?m)^x\\." + name + "\\(.*// ", step).isEmpty());
            }
        }
        List<String> inTable = new ArrayList<>();
        calls.forEach(row -> inTable.add(nameOf(row.get(0).replace("`", ""))));
        same("the calls by the steps", inSteps, inTable);
    }

    private void refusals() {
        CHECKS.about("what the refusals' numbers are");
        List<List<String>> rows = readme.table("constant");
        same("so many refusals", rows.size(), REFUSALS.size());
        for (int i = 0; i < rows.size(); i++) {
            same("a refusal", rows.get(i).get(0), "`" + REFUSALS.get(i) + "`");
            same("its number", rows.get(i).get(1), "" + numberOf(REFUSALS.get(i)));
        }
    }

    /** The other numbers below 0: each is answered in an example. */
    private void otherNumbers() {
        CHECKS.about("what README.md says is to be done so, and gives what README.md says");
        Set<String> shown = new HashSet<>(found("// (-\\d+)\\b", readme.text()));
        List<List<String>> rows = readme.table("number");
        same("so many numbers that are no refusals", rows.size(), 4);
        for (List<String> row : rows) {
            String number = row.get(0).split(" ")[0];
            is("an example that answers " + number, shown.contains(number));
        }
    }

    private static int numberOf(String refusal) {
        try {
            return LifeGrants.class.getField(refusal).getInt(null);
        } catch (ReflectiveOperationException e) {
            throw new IllegalStateException(refusal, e);
        }
    }

    /** The refusals that the promise of this call names. */
    private static Set<String> promised(String name) throws IOException {
        String text = Files.readString(DOCUMENT);
        int from = text.indexOf(": " + name + "\n", text.indexOf("## Promise 1:"));
        int to = text.indexOf("\n## ", from);
        return new TreeSet<>(found("\\b(?:NONE|BAD|STATE|FULL)\\b", text.substring(from, to)));
    }

    private void refusalsOfCalls() throws IOException {
        CHECKS.about("what README.md says is to be done so, and gives what README.md says");
        Set<String> shown = shownRefusals();
        Set<String> told = new HashSet<>();
        for (List<String> row : calls) {
            String name = nameOf(row.get(0).replace("`", ""));
            Set<String> ofCall = new TreeSet<>(row.size() < 3 ? List.of() : found("`(\\w+)`", row.get(2)));
            if (Files.exists(DOCUMENT)) {
                same("what " + name + " is refused with", ofCall, promised(name));
            }
            for (String refusal : ofCall) {
                told.add(name + " " + refusal);
                is("an example of " + name + " refused with " + refusal, shown.contains(name + " " + refusal));
            }
        }
        for (String one : shown) {
            is(one + " of the examples stands among the calls", told.contains(one));
        }
    }

    /** From the examples behind the first run: which call is refused with what. */
    private Set<String> shownRefusals() {
        Set<String> shown = new TreeSet<>();
        int objects = 0;
        for (List<String> block : readme.blocks("java")) {
            objects += Readme.isNewObject(block) ? 1 : 0;
            for (String line : block) {
                Matcher matcher = Readme.ANSWERED.matcher(line);
                int number = matcher.matches() ? Integer.parseInt(matcher.group(3)) : 0;
                if (objects > 1 && number < 0 && number >= -REFUSALS.size()) {
                    String refusal = REFUSALS.get(-1 - number);
                    shown.add(matcher.group(1) + " " + refusal);
                    is(line + " names its refusal", line.matches(".*// " + number + ": " + refusal + "(: .*)?"));
                }
            }
        }
        return shown;
    }

    private void answersAreTold() {
        CHECKS.about("what README.md says is to be done so, and gives what README.md says");
        for (List<String> block : readme.blocks("java")) {
            for (String line : block) {
                is(line + " tells its answer", !line.startsWith("x.") || Readme.ANSWERED.matcher(line).matches());
            }
        }
    }

    private void howToRunTests() throws IOException {
        CHECKS.about("how to run its tests");
        List<String> commands = new ArrayList<>();
        readme.blocks("sh").forEach(commands::addAll);
        is("the command for all", commands.contains(".ci/run"));
        Set<String> told = new TreeSet<>();
        Set<Integer> promises = new TreeSet<>();
        for (List<String> row : readme.table("test")) {
            told.addAll(found("`(\\w+)`", row.get(0)));
            List<String> numbers = found("\\d+", row.get(1));
            for (int n = 1; numbers.size() == 2 && n <= PROMISES; n++) {
                if (n >= Integer.parseInt(numbers.get(0)) && n <= Integer.parseInt(numbers.get(1))) {
                    promises.add(n);
                }
            }
        }
        same("so many promises have tests", promises.size(), PROMISES);
        Set<String> there = new TreeSet<>();
        try (Stream<Path> files = Files.list(TESTS)) {
            files.map(file -> file.getFileName().toString()).filter(name -> name.endsWith("Test.java"))
                .forEach(name -> there.add(name.replace(".java", "")));
        }
        same("the tests told", told, there);
    }

    private void inside() {
        CHECKS.about("what README.md says is to be done so, and gives what README.md says");
        String section = readme.text().substring(readme.text().indexOf("\n## Inside\n"));
        Set<String> there = new TreeSet<>();
        for (Class<?> inner : LifeGrants.class.getDeclaredClasses()) {
            there.add(inner.getSimpleName());
        }
        same("the classes told", new TreeSet<>(found("`(\\w+)`", section)), there);
    }
}
