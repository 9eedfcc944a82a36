import java.io.File;
import java.io.IOException;
import java.lang.reflect.InvocationTargetException;
import java.lang.reflect.Method;
import java.lang.reflect.Modifier;
import java.nio.file.Files;
import java.nio.file.Path;
import java.util.Set;
import java.util.TreeSet;
import java.util.regex.Matcher;
import java.util.regex.Pattern;

/** README.md: it names each call and each test, and its calls answer what it says; told the program's file. */
public final class ReadmeTest {
    private static final String MADE = "RollMill mill = new RollMill();";
    private static final Pattern CALL = Pattern.compile("mill\\.(\\w+)\\(([^)]*)\\); +// (-?\\d+|true|false|nothing)\\b.*");

    public static void main(String[] args) throws IOException, IllegalAccessException, InvocationTargetException {
        Path root = Path.of(args[0]).toAbsolutePath().normalize().getParent().getParent().getParent().getParent();
        String page = Files.readString(root.resolve("README.md"));
        Set<String> called = example(page);
        for (Method method : RollMill.class.getDeclaredMethods()) {
            if (Modifier.isPublic(method.getModifiers())) {
                Check.holds("README.md tells what " + method.getName() + " is for", page.contains("`" + method.getName() + "`"));
                Check.holds("README.md shows a call of " + method.getName(), called.contains(method.getName()));
            }
        }
        for (File file : root.resolve("src/test/java").toFile().listFiles()) {
            String name = file.getName().replace(".java", "");
            Check.holds("README.md names " + name, page.contains("`" + name + "`"));
        }
        Check.holds("README.md says how the tests are run", page.contains("\n.ci/run\n"));
        Check.end("ReadmeTest");
    }

    /** Makes the example's calls, one after the other at one mill: which they were. */
    private static Set<String> example(String page) throws IllegalAccessException, InvocationTargetException {
        Set<String> called = new TreeSet<>();
        String begins = "```java\n" + MADE + "\n";
        Check.holds("README.md has an example", page.contains(begins));
        String example = page.substring(page.indexOf(begins) + begins.length());
        RollMill mill = new RollMill();
        for (String line : example.substring(0, example.indexOf("```")).split("\n")) {
            Matcher call = CALL.matcher(line);
            if (call.matches()) {
                called.add(call.group(1));
                String got = answer(mill, call.group(1), call.group(2).split(", *"));
                Check.holds(line + " (it answered " + got + ")", got.equals(call.group(3)));
            } else {
                Check.holds("'" + line + "' is a call with its answer", line.isEmpty());
            }
        }
        return called;
    }

    private static String answer(RollMill mill, String name, String[] told)
            throws IllegalAccessException, InvocationTargetException {
        for (Method method : RollMill.class.getDeclaredMethods()) {
            if (method.getName().equals(name) && Modifier.isPublic(method.getModifiers())) {
                Class<?>[] types = method.getParameterTypes();
                Object[] numbers = new Object[types.length];
                for (int i = 0; i < types.length; i++) {
                    numbers[i] = value(types[i], told[i]);
                }
                Object answered = method.invoke(mill, numbers);
                return answered == null ? "nothing" : answered.toString();
            }
        }
        return "no such call";
    }

    private static Object value(Class<?> type, String told) {
        if (type == boolean.class) {
            return Boolean.valueOf(told);
        }
        long number = 0;
        for (String part : told.split(" \\| ")) {
            String[] shifted = part.replace("L", "").split(" << ");
            number |= Long.decode(shifted[0]) << (shifted.length > 1 ? Integer.parseInt(shifted[1]) : 0);
        }
        return type == long.class ? (Object) number : (Object) (int) number;
    }
}
