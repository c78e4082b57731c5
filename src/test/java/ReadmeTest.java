import java.io.IOException;
import java.lang.reflect.InvocationTargetException;
import java.net.URL;
import java.net.URLClassLoader;
import java.nio.file.Files;
import java.nio.file.Path;
import java.util.ArrayList;
import java.util.List;
import java.util.regex.Matcher;
import java.util.regex.Pattern;
import javax.tools.ToolProvider;

/** What README.md shows: its code is compiled and run, and each call answers what stands behind it; every call is named. */
public final class ReadmeTest {
    private static final Path README = Path.of("README.md");
    private static final Pattern BLOCK = Pattern.compile("(?s)```java\n(.*?)```");
    private static final Pattern ROW = Pattern.compile("(gold\\.\\w+\\(.*?\\)); *// (throws \\w+|-?\\d+|true|false):.*");

    private static int shown = 0;

    public static void main(String[] args) throws Exception {
        String text = Files.readString(README);
        List<String> blocks = new ArrayList<>();
        Matcher block = BLOCK.matcher(text);
        while (block.find()) {
            blocks.add(block.group(1));
        }
        Run.check("blocks of code", String.valueOf(blocks.size()), "2");
        runCode(blocks);
        Run.check("rows with an answer were found", String.valueOf(shown > 20), "true");
        namesEveryCall(text);
        Run.close();
    }

    /** A row of the readme's code, as the code that is made of it sees it. */
    public interface Shown {
        Object call();
    }

    public static void due(String row, Shown code, String want) {
        shown++;
        String got;
        try {
            got = String.valueOf(code.call());
        } catch (RuntimeException e) {
            got = "throws " + e.getClass().getSimpleName();
        }
        Run.check("README: " + row, got, want);
    }

    private static void runCode(List<String> blocks) throws Exception {
        StringBuilder code = new StringBuilder("public final class Shows {\n");
        code.append(blocks.get(0)).append("public static void main(String[] args) {\n");
        for (String line : blocks.get(1).split("\n")) {
            Matcher row = ROW.matcher(line);
            code.append(row.matches() ? "ReadmeTest.due(\"" + row.group(1) + "\", () -> " + row.group(1) + ", \""
                    + row.group(2) + "\");" : line).append('\n');
        }
        Path room = Files.createTempDirectory("readme");
        Path file = Files.writeString(room.resolve("Shows.java"), code.append("}\n}\n"));
        int wrong = ToolProvider.getSystemJavaCompiler().run(null, null, null,
                "-cp", System.getProperty("java.class.path"), "-d", room.toString(), file.toString());
        Run.check("README's code compiles", String.valueOf(wrong), "0");
        if (wrong == 0) {
            runShows(room);
        }
        for (String name : new String[] {"Shows.java", "Shows.class"}) {
            Files.deleteIfExists(room.resolve(name));
        }
        Files.delete(room);
    }

    private static void runShows(Path room) throws IOException, ReflectiveOperationException {
        try (URLClassLoader loader = new URLClassLoader(new URL[] {room.toUri().toURL()}, ReadmeTest.class.getClassLoader())) {
            loader.loadClass("Shows").getMethod("main", String[].class).invoke(null, (Object) new String[0]);
        } catch (InvocationTargetException e) {
            Run.check("README's code", "throws " + e.getCause(), "throws nothing");
        }
    }

    private static void namesEveryCall(String text) {
        for (java.lang.reflect.Method method : NailGold.class.getDeclaredMethods()) {
            if (java.lang.reflect.Modifier.isPublic(method.getModifiers())) {
                Run.check("README names " + method.getName(), String.valueOf(text.contains("`" + method.getName() + "`")), "true");
            }
        }
    }
}
