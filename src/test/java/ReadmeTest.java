import java.io.IOException;
import java.lang.reflect.Method;
import java.lang.reflect.Modifier;
import java.nio.file.Files;
import java.nio.file.Path;
import java.util.Set;
import java.util.TreeSet;
import java.util.regex.Matcher;
import java.util.regex.Pattern;

/** The run that README.md tells: each call answers what stands behind it, and every call is shown. */
public final class ReadmeTest {
    private static final Pattern CALL = Pattern.compile("x\\.(\\w+)\\((.*)\\); +// (-?[0-9]+|NO)(:.*)?");
    private static final Pattern FED = Pattern.compile("for \\(char sign : \"(.*)\"\\.toCharArray\\(\\)\\) \\{");
    private static final Set<String> FEEDING = Set.of("    x.feed(sign);", "}");
    private static final String MADE = "MiddleThree x = new MiddleThree();";

    private MiddleThree x;
    private int wrong;
    private final Set<String> shown = new TreeSet<>();

    private ReadmeTest() { }

    public static void main(String[] args) throws IOException, ReflectiveOperationException {
        ReadmeTest test = new ReadmeTest();
        boolean code = false;
        for (String line : Files.readAllLines(Path.of("README.md"))) {
            if (line.startsWith("```")) {
                code = line.equals("```java");
            } else if (code) {
                test.run(line);
            }
        }
        test.everyCall();
        System.out.println(test.wrong == 0 ? "the README holds" : test.wrong + " lines of the README do not hold");
        if (test.wrong != 0) {
            System.exit(1);
        }
    }

    private void run(String line) throws ReflectiveOperationException {
        Matcher call = CALL.matcher(line);
        Matcher fed = FED.matcher(line);
        if (line.equals(MADE)) {
            x = new MiddleThree();
        } else if (x != null && fed.matches()) {
            Checks.feed(x, fed.group(1));
        } else if (x != null && call.matches()) {
            long want = call.group(3).equals("NO") ? MiddleThree.NO : Long.parseLong(call.group(3));
            long got = answer(call.group(1), call.group(2).isEmpty() ? new String[0] : call.group(2).split(", "));
            holds(got == want, line + " answered " + got);
        } else {
            holds(FEEDING.contains(line), "not understood: " + line);
        }
    }

    private long answer(String name, String[] told) throws ReflectiveOperationException {
        for (Method method : MiddleThree.class.getMethods()) {
            if (method.getName().equals(name) && method.getParameterCount() == told.length) {
                shown.add(name);
                return ((Number) method.invoke(x, arguments(method, told))).longValue();
            }
        }
        throw new NoSuchMethodException(name);
    }

    private static Object[] arguments(Method method, String[] told) {
        Object[] arguments = new Object[told.length];
        for (int i = 0; i < told.length; i++) {
            int n = told[i].startsWith("'") ? told[i].charAt(1) : Integer.parseInt(told[i]);
            if (method.getParameterTypes()[i] == long.class) {
                arguments[i] = (long) n;
            } else {
                arguments[i] = n;
            }
        }
        return arguments;
    }

    private void everyCall() {
        for (Method method : MiddleThree.class.getDeclaredMethods()) {
            boolean open = Modifier.isPublic(method.getModifiers());
            holds(!open || shown.contains(method.getName()), method.getName() + " is not shown");
        }
    }

    private void holds(boolean so, String what) {
        if (!so) {
            wrong++;
            System.out.println(what);
        }
    }
}
