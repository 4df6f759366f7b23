import java.lang.reflect.Constructor;
import java.lang.reflect.Field;
import java.lang.reflect.Method;
import java.lang.reflect.Modifier;
import java.nio.file.Files;
import java.nio.file.Path;
import java.util.Arrays;
import java.util.Set;
import java.util.TreeSet;
import java.util.regex.Matcher;
import java.util.regex.Pattern;
import java.util.stream.Collectors;

/** The document's public face, and those rules of LANGUAGE.md that a look at the file can tell. */
public final class FaceTest {
    private static final String SOURCE = "src/main/java/VersionSolver.java";
    private static final String INDEX = "IndexOutOfBoundsException";
    private static final String ARGUMENT = "IllegalArgumentException";
    private static final String STATE = "IllegalStateException";
    private static final String[] FACE = {
        "int feed(long,int) " + ARGUMENT + " " + STATE,
        "int publish(int) " + INDEX + " " + ARGUMENT + " " + STATE + " UnsupportedOperationException",
        "boolean yank(int,boolean) " + INDEX, "void want(int) " + INDEX + " " + ARGUMENT, "boolean drop(int) " + INDEX,
        "int solve() " + STATE, "int chosen(int) " + INDEX, "int lock()", "int pin(int) " + INDEX, "int unlock()",
        "boolean meets(int) " + INDEX + " " + ARGUMENT, "int best(int) " + INDEX + " " + ARGUMENT,
        "int compare(int,int) " + INDEX, "int needs(int,int) " + INDEX, "int told(int)", "int write()",
        "int fileByte(int) " + INDEX,
    };
    private static final String[] RULED_OUT = {
        "->", "::", "\\btry\\b", "\\bfinally\\b", "\\bsynchronized\\b", "\\bassert\\b", "\\bprotected\\b",
        "\\bString\\b.*\\+", "\\bSystem\\.(?!arraycopy)", "\\bMath\\.(?!min|max|abs)", "\\bdouble\\b", "\\bfloat\\b",
        "import (?!java\\.util\\.(Arrays|ArrayList|List);)", "Exact\\(", "\\bjava\\.(?!util\\.)", "\\bequals\\b",
    };

    public static void main(String[] args) throws Exception {
        face();
        nested();
        source();
        Checks.end("FaceTest");
    }

    private static void face() {
        Class<?> face = VersionSolver.class;
        Checks.due("the class", "public final", () -> Modifier.toString(face.getModifiers()));
        Set<String> methods = new TreeSet<>();
        for (Method method : face.getDeclaredMethods()) {
            if (!Modifier.isPrivate(method.getModifiers())) {
                methods.add(said(method));
            }
        }
        Checks.due("the methods", new TreeSet<>(Arrays.asList(FACE)), () -> methods);
        for (Field field : face.getDeclaredFields()) {
            if (!Modifier.isPrivate(field.getModifiers())) {
                Checks.due("a field", "public static final int VersionSolver.NONE", field::toString);
            }
        }
        Checks.due("the constructors", "public VersionSolver()", () -> Arrays.stream(face.getDeclaredConstructors())
                .map(Constructor::toString).collect(Collectors.joining(", ")));
    }

    private static String said(Method method) {
        StringBuilder all = new StringBuilder(method.getReturnType() + " " + method.getName() + "(");
        all.append(Arrays.stream(method.getParameterTypes()).map(Class::toString).collect(Collectors.joining(",")));
        all.append(')');
        for (Class<?> thrown : method.getExceptionTypes()) {
            all.append(' ').append(thrown.getSimpleName());
        }
        return all.toString();
    }

    private static void nested() {
        Class<?>[] classes = VersionSolver.class.getDeclaredClasses();
        Checks.due("some twelve classes at most", true, () -> classes.length < 12);
        Set<String> publicNames = Arrays.stream(VersionSolver.class.getMethods()).map(Method::getName)
                .collect(Collectors.toSet());
        for (Class<?> type : classes) {
            Checks.due(type + " is static", true, () -> Modifier.isStatic(type.getModifiers()));
            Checks.due(type + " is not public", false, () -> Modifier.isPublic(type.getModifiers()));
            for (Method method : type.getDeclaredMethods()) {
                Checks.due(method + " has a name of its own", false, () -> publicNames.contains(method.getName()));
                Checks.due(method + " takes seven at most", true, () -> method.getParameterCount() <= 7);
            }
        }
    }

    private static void source() throws Exception {
        String code = Files.readString(Path.of(SOURCE)).replaceAll("(?s)/\\*.*?\\*/", "").replaceAll("//.*", "");
        for (String pattern : RULED_OUT) {
            Matcher matcher = Pattern.compile(pattern).matcher(code);
            Checks.due("found " + pattern, false, matcher::find);
        }
        Matcher opening = Pattern.compile("(?m)^( {4}| {8})[^ \n}].*\\) *(throws [^{]*)?\\{$").matcher(code);
        while (opening.find()) {
            int end = code.indexOf("\n" + opening.group(1) + "}", opening.end());
            long lines = code.substring(opening.end(), end).lines().count();
            Checks.due(opening.group().trim() + " stays short", true, () -> lines <= 60);
        }
    }
}
