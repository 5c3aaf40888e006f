import java.io.IOException;
import java.lang.reflect.Constructor;
import java.lang.reflect.Field;
import java.lang.reflect.Method;
import java.lang.reflect.Modifier;
import java.nio.file.Files;
import java.nio.file.Path;
import java.util.Arrays;
import java.util.Set;
import java.util.TreeSet;
import java.util.regex.Matcher;
import java.util.regex.Pattern;

/** The public face as the document has it, and those rules of LANGUAGE.md that can be seen without reading. */
public final class FaceTest {
    private static final String SOURCE = "src/main/java/BallsInAir.java";
    private static final String[] METHODS = {
        "int write(int, long)", "int wipe()", "int fault()", "int clash()", "int lay(int)", "int toss(int, int)",
        "int balls(int)", "int air(int)", "int turn(int)", "int backwards()", "int raise(int)", "int change(int, int)",
        "int undo()", "int cycle(int)", "int ball(int)", "int hands(int, int, int)", "long all(int, int, int)",
        "int nth(int, int, int, long)", "long rank()", "int next()", "int prime()", "int primes(int, int, int)",
        "int draw(int, int, int, int)", "int in(int)", "int out(int, int)", "int across(int, int)", "int steps()",
        "int together(int, int)", "int mended(int, int)", "int keep()", "int back()", "int count(int)"
    };
    private static final String[] FORBIDDEN = {
        "\\bimport\\b", "\\bcatch\\b", "\\bfinally\\b", "\\bthrow\\b", "\\bsynchronized\\b", "\\bassert\\b", "->", "::",
        "Exact\\b", "\\bMath\\.(sqrt|pow|random)\\b", "\\bSystem\\.(?!arraycopy)", "\\bThread\\b", "\\bstatic \\{",
        "\\bprotected\\b", "\\bequals\\b", "\\bhashCode\\b", "\\btoString\\b", "\\bwhile \\(true\\)", "\\bfor \\(;;\\)"
    };

    private final Checks checks = new Checks();

    public static void main(String[] args) throws IOException {
        FaceTest test = new FaceTest();
        test.publicFace();
        test.hiddenRest();
        test.sizes();
        test.source();
        test.checks.end();
    }

    private static String told(Method method) {
        StringBuilder types = new StringBuilder();
        for (Class<?> type : method.getParameterTypes()) {
            types.append(types.length() == 0 ? "" : ", ").append(type.getSimpleName());
        }
        return method.getReturnType().getSimpleName() + " " + method.getName() + "(" + types + ")";
    }

    private void publicFace() {
        Set<String> found = new TreeSet<>();
        for (Method method : BallsInAir.class.getDeclaredMethods()) {
            if (Modifier.isPublic(method.getModifiers())) {
                found.add(told(method));
                checks.holds(method + " throws nothing", method.getExceptionTypes().length == 0);
            }
        }
        checks.holds("the methods are " + found, found.equals(new TreeSet<>(Arrays.asList(METHODS))));
        Constructor<?>[] made = BallsInAir.class.getDeclaredConstructors();
        checks.holds("one public constructor", made.length == 1 && Modifier.isPublic(made[0].getModifiers()));
        checks.holds("the class is final", Modifier.isFinal(BallsInAir.class.getModifiers()));
        checks.same("BAD", BallsInAir.BAD, -1);
        checks.same("NO", BallsInAir.NO, -2);
        checks.same("FULL", BallsInAir.FULL, -3);
        checks.same("NONE", BallsInAir.NONE, -4);
    }

    private void hiddenRest() {
        Set<String> open = new TreeSet<>();
        for (Field field : BallsInAir.class.getDeclaredFields()) {
            int how = field.getModifiers();
            if (Modifier.isPublic(how)) {
                open.add(field.getName());
            } else {
                checks.holds(field + " is private", Modifier.isPrivate(how));
            }
            checks.holds(field + " is no static state", !Modifier.isStatic(how) || Modifier.isFinal(how));
        }
        checks.holds("the constants are " + open, open.equals(Set.of("BAD", "NO", "FULL", "NONE")));
        Set<String> names = new TreeSet<>();
        for (String method : METHODS) {
            names.add(method.substring(method.indexOf(' ') + 1, method.indexOf('(')));
        }
        hiddenMethods(BallsInAir.class, names);
        for (Class<?> inside : BallsInAir.class.getDeclaredClasses()) {
            checks.holds(inside + " is private and static", Modifier.isPrivate(inside.getModifiers())
                    && Modifier.isStatic(inside.getModifiers()));
            hiddenMethods(inside, names);
        }
    }

    private void hiddenMethods(Class<?> of, Set<String> names) {
        for (Method method : of.getDeclaredMethods()) {
            boolean isPublic = Modifier.isPublic(method.getModifiers());
            checks.holds(method + " bears no public name", isPublic || !names.contains(method.getName()));
            checks.holds(method + " takes seven at most", method.getParameterCount() <= 7);
        }
    }

    private void sizes() {
        Class<?>[] inside = BallsInAir.class.getDeclaredClasses();
        checks.holds("twelve classes at most", inside.length + 1 <= 12);
        fewFields(BallsInAir.class);
        for (Class<?> one : inside) {
            fewFields(one);
        }
    }

    private void fewFields(Class<?> of) {
        int fields = 0;
        for (Field field : of.getDeclaredFields()) {
            fields += Modifier.isStatic(field.getModifiers()) ? 0 : 1;
        }
        checks.holds(of + " has twenty fields at most", fields <= 20);
    }

    private void source() throws IOException {
        String code = Files.readString(Path.of(SOURCE));
        checks.holds("only signs 1 to 127", code.chars().allMatch(sign -> sign > 0 && sign < 128));
        checks.holds("no package line", !code.startsWith("package"));
        String bare = code.replaceAll("(?s)/\\*.*?\\*/", "").replaceAll("//[^\n]*", "");
        for (String one : FORBIDDEN) {
            Matcher matcher = Pattern.compile(one).matcher(bare);
            checks.holds("the source is without " + one, !matcher.find());
        }
    }
}
