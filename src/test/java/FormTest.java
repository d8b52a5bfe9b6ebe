import java.io.IOException;
import java.lang.reflect.Field;
import java.lang.reflect.Method;
import java.lang.reflect.Modifier;
import java.nio.file.Files;
import java.nio.file.Path;
import java.util.ArrayList;
import java.util.List;
import java.util.Map;
import java.util.Set;
import java.util.TreeMap;
import java.util.TreeSet;
import java.util.regex.Matcher;
import java.util.regex.Pattern;

/** The rules of LANGUAGE.md that can be seen in the file's text and by reflection. */
public final class FormTest {
    private static final Path FILE = Path.of("src/main/java/ContentsFinder.java");
    private static final Set<String> IMPORTS = Set.of("java.util.ArrayList", "java.util.Arrays", "java.util.Iterator",
            "java.util.List", "java.util.NoSuchElementException");
    private static final Set<String> LIBRARY = Set.of("Math.max", "Math.min", "Math.abs", "Math.floorDiv",
            "Math.floorMod", "Integer.bitCount", "Integer.compare", "Long.compare", "System.arraycopy", "Arrays.fill",
            "Arrays.copyOf", "Arrays.copyOfRange");
    private static final int MOST_PARAMETERS = 7;
    private static final int MOST_METHOD_LINES = 60;
    private static final int MOST_DEPTH = 8;
    private static final int MOST_CLASSES = 12;
    private static final int MOST_FIELDS = 20;
    private static final Pattern METHOD = Pattern.compile("( {4}| {8})(?!return|throw)(?:\\w+(?:\\[\\])? )*(\\w+)\\([^;]*\\{");
    private static int faults = 0;

    private FormTest() {
    }

    public static void main(String[] args) throws IOException {
        List<String> code = withoutComments(Files.readAllLines(FILE));
        List<Class<?>> classes = new ArrayList<>(List.of(ContentsFinder.class.getDeclaredClasses()));
        classes.add(ContentsFinder.class);
        checkFile();
        checkWords(code);
        checkMethods(code);
        checkClasses(classes);
        System.out.println(faults == 0 ? "the form is as the rules have it" : faults + " rules are broken");
        if (faults != 0) {
            System.exit(1);
        }
    }

    private static void rule(int number, boolean holds, String what) {
        if (!holds) {
            faults++;
            System.out.println("rule " + number + " of LANGUAGE.md: " + what);
        }
    }

    private static List<String> withoutComments(List<String> lines) {
        List<String> code = new ArrayList<>();
        for (String line : lines) {
            String start = line.strip();
            boolean isComment = start.startsWith("//") || start.startsWith("*") || start.startsWith("/*");
            code.add(isComment ? "" : line.replaceAll("\"[^\"]*\"", "\"\""));
        }
        return code;
    }

    private static void checkFile() throws IOException {
        try (var files = Files.walk(Path.of("src/main"))) {
            List<Path> found = files.filter(Files::isRegularFile).toList();
            rule(1, found.equals(List.of(FILE)), "the program is one file, found are " + found);
        }
    }

    private static void checkWords(List<String> code) {
        Pattern banned = Pattern.compile("^package |->|::|\\b(try|catch|finally|synchronized|assert|throws Exception)\\b"
                + "|static \\{|\\w+Exact\\(|\\.(getMessage|equals|hashCode|toString)\\(|\\b(Random|Thread|Runtime|Object)\\b");
        Pattern imported = Pattern.compile("import ([\\w.* ]+);");
        Pattern used = Pattern.compile("\\b(Math|Integer|Long|System|Arrays|String|List)\\.\\w+");
        Pattern thrown = Pattern.compile("throw (?!new NoSuchElementException\\(\"\"\\);)");
        for (String line : code) {
            rule(6, !banned.matcher(line).find(), "not allowed: " + line.strip());
            rule(6, !thrown.matcher(line).find(), "the document's face throws NoSuchElementException alone: " + line.strip());
            Matcher i = imported.matcher(line);
            rule(4, !i.matches() || IMPORTS.contains(i.group(1)), "not in the library: " + line);
            for (Matcher u = used.matcher(line); u.find();) {
                rule(4, line.startsWith("import ") || LIBRARY.contains(u.group()), "not in the library: " + u.group());
            }
        }
    }

    private static void checkMethods(List<String> code) {
        Map<String, String> bodies = new TreeMap<>();
        for (int first = 0; first < code.size(); first++) {
            Matcher m = METHOD.matcher(code.get(first));
            if (m.matches() && !code.get(first).contains(" new ")) {
                int end = code.subList(first, code.size()).indexOf(m.group(1) + "}") + first;
                rule(11, end - first < MOST_METHOD_LINES, m.group(2) + " has more than " + MOST_METHOD_LINES + " lines");
                // methods of one name count as one: the depth can only come out greater by it
                bodies.merge(m.group(2), String.join("\n", code.subList(first + 1, end)), String::concat);
            }
        }
        for (Method method : ContentsFinder.class.getDeclaredMethods()) {
            rule(11, bodies.containsKey(method.getName()), method.getName() + " was not seen in the text");
        }
        for (String name : bodies.keySet()) {
            int depth = depth(name, bodies, 0);
            rule(11, depth <= MOST_DEPTH, "the calls of " + name + " go " + depth + " deep");
        }
    }

    private static int depth(String name, Map<String, String> bodies, int above) {
        int deepest = 0;
        if (above <= MOST_DEPTH) {
            for (Matcher m = Pattern.compile("\\b(\\w+)\\(").matcher(bodies.get(name)); m.find();) {
                deepest = bodies.containsKey(m.group(1)) ? Math.max(deepest, depth(m.group(1), bodies, above + 1)) : deepest;
            }
        }
        return deepest + 1;
    }

    private static void checkClasses(List<Class<?>> classes) {
        Set<String> face = new TreeSet<>();
        for (Method method : ContentsFinder.class.getDeclaredMethods()) {
            if (Modifier.isPublic(method.getModifiers())) {
                face.add(method.getName());
            }
        }
        rule(11, classes.size() <= MOST_CLASSES, "there are " + classes.size() + " classes");
        for (Class<?> c : classes) {
            int modifiers = c.getModifiers();
            boolean isInside = Modifier.isStatic(modifiers) && !Modifier.isPublic(modifiers) && !Modifier.isProtected(modifiers);
            rule(1, c == ContentsFinder.class || isInside, c.getName() + " is not static, or shown");
            for (Method method : c.getDeclaredMethods()) {
                boolean isShown = Modifier.isPublic(method.getModifiers());
                rule(1, isShown || !face.contains(method.getName()), method + " bears the name of a public method");
                rule(11, method.getParameterCount() <= MOST_PARAMETERS, method + " takes too many parameters");
            }
            checkFields(c);
        }
    }

    private static void checkFields(Class<?> c) {
        Set<Class<?>> constants = Set.of(int.class, long.class, boolean.class, char.class, String.class, int[].class,
                long[].class, char[].class, byte[].class);
        int fields = 0;
        for (Field field : c.getDeclaredFields()) {
            if (Modifier.isStatic(field.getModifiers())) {
                boolean isConstant = Modifier.isFinal(field.getModifiers()) && constants.contains(field.getType());
                rule(5, isConstant, field + " is no constant");
            } else {
                fields++;
            }
        }
        rule(11, fields <= MOST_FIELDS, c.getName() + " has " + fields + " fields");
    }
}
