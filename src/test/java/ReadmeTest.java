import java.io.IOException;
import java.lang.reflect.Method;
import java.lang.reflect.Modifier;
import java.net.URL;
import java.net.URLClassLoader;
import java.nio.file.Files;
import java.nio.file.Path;
import java.util.ArrayList;
import java.util.List;
import java.util.Set;
import java.util.TreeSet;
import java.util.regex.Matcher;
import java.util.regex.Pattern;
import javax.tools.ToolProvider;

/** The example of README.md, compiled and run as it stands there, and the texts that it tells of. */
public final class ReadmeTest {
    private static final Pattern BLOCK = Pattern.compile("(?s)```java\n(.*?)```");
    private static final Pattern TOLD = Pattern.compile("(x\\..*\\)); +// (?:answers|throws) ([^:]+): .*");

    public static void main(String[] args) throws Exception {
        String readme = Files.readString(Path.of("README.md"));
        example(readme);
        everyCallIsNamed(readme);
        texts(readme);
        Checks.end("ReadmeTest");
    }

    private static void example(String readme) throws Exception {
        Matcher block = BLOCK.matcher(readme);
        Checks.due("there is an example", true, block::find);
        List<String> calls = new ArrayList<>();
        List<String> due = new ArrayList<>();
        StringBuilder body = new StringBuilder();
        for (String line : block.group(1).split("\n")) {
            Matcher told = TOLD.matcher(line);
            if (told.matches()) {
                calls.add(told.group(1));
                due.add(told.group(2));
                body.append("try { said.add(String.valueOf(").append(told.group(1)).append(")); } ")
                        .append("catch (RuntimeException e) { said.add(e.getClass().getSimpleName()); }\n");
            } else {
                body.append(line).append('\n');
            }
        }
        Checks.due("most lines tell an answer", true, () -> calls.size() > 15);
        List<String> said = run(body.toString());
        for (int i = 0; i < calls.size(); i++) {
            int at = i;
            Checks.due("README.md, line " + (i + 1) + " of answers, " + calls.get(i), due.get(i), () -> said.get(at));
        }
    }

    private static List<String> run(String body) throws Exception {
        Path room = Files.createTempDirectory("readme");
        Path file = room.resolve("ReadmeExample.java");
        try {
            Files.writeString(file, "final class ReadmeExample {\nstatic void run(java.util.List<String> said) {\n"
                    + body + "}\n}\n");
            String path = System.getProperty("java.class.path");
            int failed = ToolProvider.getSystemJavaCompiler().run(null, null, null, "-cp", path, "-d",
                    room.toString(), file.toString());
            List<String> said = new ArrayList<>();
            Checks.due("the example compiles", 0, () -> failed);
            try (URLClassLoader loader = new URLClassLoader(new URL[] {room.toUri().toURL()})) {
                Method run = loader.loadClass("ReadmeExample").getDeclaredMethod("run", List.class);
                run.setAccessible(true);
                run.invoke(null, said);
            }
            return said;
        } finally {
            remove(room);
        }
    }

    private static void remove(Path room) throws IOException {
        for (String name : new String[] {"ReadmeExample.java", "ReadmeExample.class"}) {
            Files.deleteIfExists(room.resolve(name));
        }
        Files.deleteIfExists(room);
    }

    private static void everyCallIsNamed(String readme) {
        Set<String> missing = new TreeSet<>();
        for (Method method : VersionSolver.class.getDeclaredMethods()) {
            if (Modifier.isPublic(method.getModifiers())
                    && !readme.contains("`" + method.getName() + "`")) {
                missing.add(method.getName());
            }
        }
        Checks.due("calls that README.md does not name", "[]", () -> missing);
    }

    /** The texts of the table are sound, and each row has some. */
    private static void texts(String readme) {
        VersionSolver x = new VersionSolver();
        int version = 0;
        for (String text : textsOf(readme, "| a version |")) {
            int pack = version;
            Checks.due("a version, " + text, version++, () -> Checks.publish(x, pack, text));
        }
        for (String text : textsOf(readme, "| a requirement:")) {
            Checks.due("a requirement, " + text, "wanted", () -> Checks.want(x, 0, text));
        }
        for (String text : textsOf(readme, "| a publication:")) {
            int number = version++;
            Checks.due("a publication, " + text, number, () -> Checks.publish(x, 7, text));
        }
    }

    private static List<String> textsOf(String readme, String beginning) {
        List<String> texts = new ArrayList<>();
        for (String line : readme.split("\n")) {
            if (line.startsWith(beginning)) {
                String[] columns = line.split("\\|");
                Matcher quoted = Pattern.compile("`([^`]+)`").matcher(columns[columns.length - 1]);
                while (quoted.find()) {
                    texts.add(quoted.group(1));
                }
            }
        }
        Checks.due(beginning + " has texts", false, texts::isEmpty);
        return texts;
    }
}
