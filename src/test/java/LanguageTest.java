import java.io.IOException;
import java.lang.reflect.Constructor;
import java.lang.reflect.Field;
import java.lang.reflect.Method;
import java.lang.reflect.Modifier;
import java.nio.file.Files;
import java.nio.file.Path;
import java.util.ArrayList;
import java.util.Arrays;
import java.util.List;
import java.util.Set;
import java.util.TreeSet;
import java.util.regex.Matcher;
import java.util.regex.Pattern;

/** The face of the class and those rules of LANGUAGE.md that can be looked up. */
public final class LanguageTest {
    private static final Path SOURCE = Path.of("src/main/java/LifeGrants.java");
    private static final int LONGEST_METHOD = 60, MOST_CLASSES = 12, MOST_FIELDS = 20, MOST_PARAMETERS = 7;
    private static final String FACE = """
        act(int,int,int,int) as(int,int,int) began(int,int,int) both(int,int,int,int) clash(int,int,int)
        count(int) feed(long,int) grant() has(int,int,int,int) holders(int,int) image() judged(int,int)
        late(int,int,int,int) life(int,int,int,int) maybe(int,int,int) measure(int) mend(int,int,int)
        person(int,int) row(int) same(int,int) see(int,int,int,int) share(int,int,int,int) strike(int,int)
        sure(int,int,int) told(int,int) trace(int) undo()
        """;

    private static int wrong = 0;

    public static void main(String[] args) throws IOException {
        String source = Files.readString(SOURCE);
        face();
        classes();
        words(source.replaceAll("(?s)/\\*.*?\\*/", "").replaceAll("//[^\n]*", ""));
        methodsAreShort(source);
        rowsAreMadeOnce(source);
        System.out.println("LanguageTest: " + wrong + " rules broken");
        if (wrong != 0) {
            System.exit(1);
        }
    }

    private static void rule(boolean isKept, String what) {
        if (!isKept) {
            wrong++;
            System.out.println("LanguageTest: " + what);
        }
    }

    private static void face() {
        Set<String> methods = new TreeSet<>();
        for (Method method : LifeGrants.class.getDeclaredMethods()) {
            if (Modifier.isPublic(method.getModifiers())) {
                List<String> types = Arrays.stream(method.getParameterTypes()).map(Class::getName).toList();
                methods.add(method.getName() + "(" + String.join(",", types) + ")");
                rule(method.getReturnType() == int.class, method + " answers no int");
            } else {
                rule(Modifier.isPrivate(method.getModifiers()), method + " is not private");
            }
        }
        rule(methods.equals(new TreeSet<>(List.of(FACE.trim().split("\\s+")))), "the face is " + methods);
        Set<String> constants = new TreeSet<>();
        for (Field field : LifeGrants.class.getDeclaredFields()) {
            if (Modifier.isPublic(field.getModifiers())) {
                constants.add(field.getName());
            } else {
                rule(Modifier.isPrivate(field.getModifiers()), field + " is not private");
            }
        }
        rule(constants.equals(Set.of("NONE", "BAD", "STATE", "FULL")), "the constants are " + constants);
        rule(LifeGrants.NONE == -1 && LifeGrants.BAD == -2, "NONE, BAD");
        rule(LifeGrants.STATE == -3 && LifeGrants.FULL == -4, "STATE, FULL");
        Constructor<?>[] constructors = LifeGrants.class.getDeclaredConstructors();
        rule(constructors.length == 1 && constructors[0].getParameterCount() == 0, "the constructor");
        rule(Modifier.isFinal(LifeGrants.class.getModifiers()), "the class is not final");
    }

    private static void classes() {
        List<Class<?>> all = new ArrayList<>(List.of(LifeGrants.class.getDeclaredClasses()));
        for (Class<?> inner : all) {
            int signs = inner.getModifiers();
            rule(Modifier.isStatic(signs) && !Modifier.isPublic(signs), inner + " is not static or is public");
        }
        all.add(LifeGrants.class);
        rule(all.size() <= MOST_CLASSES, "too many classes: " + all.size());
        Set<String> names = new TreeSet<>();
        for (String method : FACE.trim().split("\\s+")) {
            names.add(method.substring(0, method.indexOf('(')));
        }
        for (Class<?> one : all) {
            int fields = 0;
            for (Field field : one.getDeclaredFields()) {
                boolean isStatic = Modifier.isStatic(field.getModifiers());
                fields += isStatic ? 0 : 1;
                rule(!isStatic || Modifier.isFinal(field.getModifiers()), field + " is static state");
            }
            rule(fields <= MOST_FIELDS, one + " has too many fields");
            for (Method method : one.getDeclaredMethods()) {
                rule(method.getParameterCount() <= MOST_PARAMETERS, method + " takes too many");
                boolean isOfFace = one == LifeGrants.class && Modifier.isPublic(method.getModifiers());
                rule(isOfFace || !names.contains(method.getName()), method + " bears a public one's name");
            }
        }
    }

    private static void words(String code) {
        String[] none = {
            "throw", "throws", "try", "catch", "synchronized", "assert", "import", "package", "record", "Object",
            "equals", "hashCode", "toString", "volatile", "transient", "native", "Exception", "Thread", "List",
        };
        for (String word : none) {
            rule(!Pattern.compile("\\b" + word + "\\b").matcher(code).find(), "the word " + word);
        }
        rule(!code.contains("->") && !code.contains("::"), "a lambda or a method reference");
        Matcher library = Pattern.compile("\\b(System|Math|Integer|Long|Arrays)\\.(\\w+)").matcher(code);
        Set<String> listed = Set.of("System.arraycopy", "Math.min", "Integer.bitCount", "Long.bitCount");
        while (library.find()) {
            rule(listed.contains(library.group()), library.group() + " of the library");
        }
        rule(code.chars().allMatch(sign -> sign < 128), "a sign above 127");
        rule(!Pattern.compile("[^<]\\bwhile\\s*\\(\\s*true|for\\s*\\(\\s*;\\s*;").matcher(code).find(), "a loop without end");
    }

    private static void methodsAreShort(String source) {
        Matcher method = Pattern.compile("(?m)^( +)(?:public|private) [^;={]*\\([^;{]*\\) \\{$").matcher(source);
        while (method.find()) {
            String end = "\n" + method.group(1) + "}\n";
            int size = source.indexOf(end, method.end()) + end.length();
            int lines = (int) source.substring(method.start(), size).lines().count();
            rule(lines <= LONGEST_METHOD, method.group().trim() + " has " + lines + " lines");
        }
    }

    /** README.md: all rows are made by the constructor; no later call makes an object. */
    private static void rowsAreMadeOnce(String source) {
        Matcher maker = Pattern.compile("(?m)^.*\\bnew\\b.*$").matcher(source.replaceAll("(?m)//.*$", ""));
        while (maker.find()) {
            String line = maker.group().trim();
            boolean isField = line.matches("private final [\\w\\[\\]]+ \\w+ = new [^;]+;");
            boolean isOfConstructor = line.matches("(courses\\[set\\] = new Course|given\\[number\\] = new Grant)\\(\\);");
            rule(isField || isOfConstructor, "an object is made by " + line);
        }
    }
}
