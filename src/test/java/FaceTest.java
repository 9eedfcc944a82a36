import java.io.IOException;
import java.lang.reflect.Constructor;
import java.lang.reflect.Field;
import java.lang.reflect.Method;
import java.lang.reflect.Modifier;
import java.nio.file.Files;
import java.nio.file.Path;
import java.util.Arrays;
import java.util.List;
import java.util.Set;
import java.util.TreeSet;

/** The public face, and what can be seen of the rules of LANGUAGE.md; told the program's file. */
public final class FaceTest {
    private static final String NO_SUCH = " NoSuchElementException";
    private static final String ILLEGAL = " IllegalArgumentException";
    private static final Set<String> FACE = new TreeSet<>(List.of(
        "int stand(int,int,int,int,int,int,int,int)", "int point(int,int)", "int press(int,int)" + ILLEGAL,
        "int bite(int,int,int,int)" + NO_SUCH + ILLEGAL, "int gap(int,int)" + NO_SUCH + ILLEGAL, "int change(int)" + NO_SUCH,
        "int standOf(int,int)" + NO_SUCH, "int feed(int,int,int,int,int)", "int rules(int)" + ILLEGAL, "int fault()",
        "void coil()", "int segment(int,int)", "int run(int)" + ILLEGAL, "int ran(int)" + NO_SUCH,
        "int out(int,int)" + NO_SUCH, "int gauge(int)" + NO_SUCH, "int pull(int)" + NO_SUCH,
        "int lost(boolean,int)" + NO_SUCH + ILLEGAL, "int pass(int)", "int plan(int,int,int)" + ILLEGAL,
        "int planned(int,int)" + NO_SUCH, "boolean fits(int,int,long,long,long,long,int,int,int)" + NO_SUCH + ILLEGAL,
        "int waves(int,int,int,int,int,int,int,int,int)" + NO_SUCH + ILLEGAL, "int order(int,int,int,int)", "int row()",
        "int rowed(int)" + NO_SUCH, "int evenings(int)" + ILLEGAL, "int reading(int,int,int)", "boolean back(int)" + NO_SUCH,
        "int known(int,int,int,int,int)" + NO_SUCH + ILLEGAL, "int count(int)" + NO_SUCH));

    public static void main(String[] args) throws IOException {
        face();
        everyClass(RollMill.class);
        for (Class<?> inside : RollMill.class.getDeclaredClasses()) {
            Check.holds(inside + " is static", Modifier.isStatic(inside.getModifiers()));
            Check.holds(inside + " is not public", !Modifier.isPublic(inside.getModifiers()));
            everyClass(inside);
        }
        Check.holds("some twelve classes", RollMill.class.getDeclaredClasses().length < 12);
        source(Files.readAllLines(Path.of(args[0])));
        Check.end("FaceTest");
    }

    private static void face() {
        Set<String> found = new TreeSet<>();
        for (Method method : RollMill.class.getDeclaredMethods()) {
            if (Modifier.isPublic(method.getModifiers())) {
                found.add(told(method));
            } else {
                Check.holds(method + " is private", Modifier.isPrivate(method.getModifiers()));
            }
        }
        Check.holds("the methods " + found, found.equals(FACE));
        Constructor<?>[] constructors = RollMill.class.getDeclaredConstructors();
        Check.holds("one constructor", constructors.length == 1 && constructors[0].getParameterCount() == 0);
        Check.holds("public final", RollMill.class.getModifiers() == (Modifier.PUBLIC | Modifier.FINAL));
        for (Field field : RollMill.class.getDeclaredFields()) {
            Check.holds(field + " is NONE or private", field.getName().equals("NONE") != Modifier.isPrivate(field.getModifiers()));
        }
        Check.same("NONE", RollMill.NONE, -1);
    }

    private static String told(Method method) {
        StringBuilder all = new StringBuilder(method.getReturnType().getName()).append(' ').append(method.getName()).append('(');
        for (Class<?> type : method.getParameterTypes()) {
            all.append(all.charAt(all.length() - 1) == '(' ? "" : ",").append(type.getName());
        }
        all.append(')');
        for (Class<?> thrown : method.getExceptionTypes()) {
            all.append(' ').append(thrown.getSimpleName());
        }
        return all.toString();
    }

    private static void everyClass(Class<?> one) {
        int own = 0;
        for (Field field : one.getDeclaredFields()) {
            boolean isStatic = Modifier.isStatic(field.getModifiers());
            Check.holds(field + " is final, if static", !isStatic || Modifier.isFinal(field.getModifiers()));
            own += isStatic ? 0 : 1;
        }
        Check.holds(one + " has some twenty fields", own <= 20);
        for (Method method : one.getDeclaredMethods()) {
            if (!Modifier.isPublic(method.getModifiers())) {
                Check.holds(method + " has at most seven parameters", method.getParameterCount() <= 7);
                for (String line : FACE) {
                    Check.holds(method + " bears no public name", !line.contains(" " + method.getName() + "("));
                }
            }
        }
    }

    private static void source(List<String> lines) {
        List<String> never = Arrays.asList("->", "::", "catch", "finally", "synchronized", "assert ", "float", "double ", "Exact(",
            "@", "\" +", "+ \"", "static {", "System.out", "null", ".equals(");
        List<String> imports = List.of("import java.util.ArrayList;", "import java.util.Arrays;", "import java.util.NoSuchElementException;");
        int began = 0;
        String indent = "";
        for (int i = 0; i < lines.size(); i++) {
            String line = lines.get(i);
            for (String word : never) {
                Check.holds("line " + (i + 1) + " is without " + word, !line.contains(word));
            }
            Check.holds("import", !line.startsWith("import") || imports.contains(line));
            Check.holds("line " + (i + 1) + " is ASCII", line.chars().allMatch(c -> c >= 32 && c < 127));
            if (line.matches(" +[a-zA-Z].*\\(.*\\).*\\{") && !line.matches(" +(if|for|while|switch|\\} else).*")) {
                began = i;
                indent = line.substring(0, line.length() - line.stripLeading().length());
            }
            Check.holds("a method ends in line " + (i + 1), !line.equals(indent + "}") || i - began <= 60);
        }
    }
}
