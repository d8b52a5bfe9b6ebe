import java.io.IOException;
import java.lang.reflect.InvocationTargetException;
import java.lang.reflect.Method;
import java.lang.reflect.Modifier;
import java.lang.reflect.Parameter;
import java.nio.file.Files;
import java.nio.file.Path;
import java.util.List;
import java.util.NoSuchElementException;
import java.util.Set;
import java.util.TreeSet;
import java.util.regex.Matcher;
import java.util.regex.Pattern;

/** README.md tells each method of the face, and the calls of its run answer as it says. */
public final class ReadmeTest {
    private static final Pattern CALL = Pattern.compile("\\| `(\\w+)\\(([^)]*)\\)` \\| (\\S+) \\|.*");
    private static final Pattern TOLD = Pattern.compile("\\| `(int|boolean) (\\w+)\\(([^)]*)\\)` \\|.*");
    private static final int MOST_CALLS = 512;
    private static int wrong = 0;

    private ReadmeTest() {
    }

    public static void main(String[] args) throws IOException, IllegalAccessException {
        List<String> readme = Files.readAllLines(Path.of("README.md"));
        checkFaceIsTold(readme);
        int calls = checkRun(readme);
        System.out.println(wrong == 0 ? "README.md and its " + calls + " calls hold" : wrong + " lines do not hold");
        if (wrong != 0) {
            System.exit(1);
        }
    }

    private static void tell(String fault) {
        wrong++;
        System.out.println("README.md: " + fault);
    }

    private static void checkFaceIsTold(List<String> readme) {
        Set<String> told = new TreeSet<>();
        for (String row : readme) {
            Matcher m = TOLD.matcher(row);
            if (m.matches()) {
                told.add(m.group(1) + " " + m.group(2) + "(" + m.group(3).replaceAll(" \\w+(, )?", ",").replaceAll(",$", "")
                        + ")");
            }
        }
        Set<String> face = new TreeSet<>();
        for (Method method : ContentsFinder.class.getDeclaredMethods()) {
            if (Modifier.isPublic(method.getModifiers())) {
                face.add(signature(method));
            }
        }
        if (!told.equals(face)) {
            tell("tells " + told + ", the face has " + face);
        }
    }

    private static String signature(Method method) {
        StringBuilder types = new StringBuilder();
        for (Parameter p : method.getParameters()) {
            types.append(types.length() == 0 ? "" : ",").append(p.getType().getName());
        }
        return method.getReturnType().getName() + " " + method.getName() + "(" + types + ")";
    }

    private static int checkRun(List<String> readme) throws IllegalAccessException {
        ContentsFinder finder = new ContentsFinder();
        Set<String> used = new TreeSet<>();
        int calls = 0;
        for (String row : readme) {
            Matcher m = CALL.matcher(row);
            if (m.matches()) {
                calls++;
                used.add(m.group(1));
                String got = answer(finder, m.group(1), m.group(2).isEmpty() ? new String[0] : m.group(2).split(", "));
                if (!got.equals(m.group(3))) {
                    tell(m.group(1) + "(" + m.group(2) + ") answered " + got + ", it tells " + m.group(3));
                }
            }
        }
        for (Method method : ContentsFinder.class.getDeclaredMethods()) {
            if (Modifier.isPublic(method.getModifiers()) && !used.contains(method.getName())) {
                tell("its run never calls " + method.getName());
            }
        }
        if (calls > MOST_CALLS) {
            tell("its run has more calls than the document promises answers for");
        }
        return calls;
    }

    private static String answer(ContentsFinder finder, String name, String[] told) throws IllegalAccessException {
        for (Method method : ContentsFinder.class.getMethods()) {
            if (method.getName().equals(name) && method.getParameterCount() == told.length) {
                return call(finder, method, told);
            }
        }
        return "no such method";
    }

    private static String call(ContentsFinder finder, Method method, String[] told) throws IllegalAccessException {
        Object[] args = new Object[told.length];
        for (int k = 0; k < told.length; k++) {
            boolean isInt = method.getParameterTypes()[k] == int.class;
            args[k] = isInt ? (Object) Integer.decode(told[k]) : (Object) Boolean.valueOf(told[k]);
        }
        try {
            return String.valueOf(method.invoke(finder, args));
        } catch (InvocationTargetException e) {
            return e.getCause() instanceof NoSuchElementException ? "NoSuchElementException" : e.getCause().toString();
        }
    }
}
