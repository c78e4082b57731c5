import java.io.IOException;
import java.lang.reflect.Constructor;
import java.lang.reflect.Field;
import java.lang.reflect.Method;
import java.lang.reflect.Modifier;
import java.nio.file.Files;
import java.nio.file.Path;
import java.util.ArrayList;
import java.util.Arrays;
import java.util.List;
import java.util.TreeSet;
import java.util.regex.Matcher;
import java.util.regex.Pattern;

/** The document's face, read from the document itself, and the rules of LANGUAGE.md that can be read off the file. */
public final class FaceTest {
    private static final Path CLASS = Path.of("src/main/java/NailGold.java");
    private static final Path DOC = Path.of("../shared/DOC.md");

    public static void main(String[] args) throws IOException {
        face();
        privateNames();
        source(Files.readString(CLASS));
        methodLengths(Files.readAllLines(CLASS));
        Run.close();
    }

    private static void face() throws IOException {
        String doc = Files.readString(DOC);
        String code = doc.substring(doc.indexOf("public final class NailGold {"), doc.indexOf("## Terms"));
        TreeSet<String> due = new TreeSet<>();
        Matcher line = Pattern.compile("(?m)^    (public [^;=]*)( = [^;]*)?;").matcher(code);
        while (line.find()) {
            due.add(line.group(1).replaceAll("(\\bint|\\bboolean) [a-z]+(?=[,)])", "$1"));
        }
        TreeSet<String> got = new TreeSet<>();
        for (Method method : NailGold.class.getDeclaredMethods()) {
            if (!Modifier.isPrivate(method.getModifiers()) && !method.isSynthetic()) {
                got.add(Modifier.toString(method.getModifiers()) + " " + method.getReturnType() + " " + method.getName()
                        + "(" + kinds(method.getParameterTypes()) + ")" + throwsOf(method));
            }
        }
        for (Constructor<?> maker : NailGold.class.getDeclaredConstructors()) {
            got.add(Modifier.toString(maker.getModifiers()) + " NailGold(" + kinds(maker.getParameterTypes()) + ")");
        }
        for (Field field : NailGold.class.getDeclaredFields()) {
            if (!Modifier.isPrivate(field.getModifiers())) {
                got.add(Modifier.toString(field.getModifiers()) + " " + field.getType() + " " + field.getName());
            }
            if (Modifier.isStatic(field.getModifiers())) {
                Run.check(field + " is final", String.valueOf(Modifier.isFinal(field.getModifiers())), "true");
            }
        }
        Run.check("the face", got.toString(), due.toString());
        Run.check("calls of the face", String.valueOf(due.size() > 48), "true");
        Run.check("NONE", String.valueOf(NailGold.NONE), "-1");
        Run.check("the class", Modifier.toString(NailGold.class.getModifiers()), "public final");
    }

    private static String kinds(Class<?>[] kinds) {
        List<String> names = new ArrayList<>();
        for (Class<?> kind : kinds) {
            names.add(kind.getSimpleName());
        }
        return String.join(", ", names);
    }

    private static String throwsOf(Method method) {
        return method.getExceptionTypes().length == 0 ? "" : " throws " + kinds(method.getExceptionTypes());
    }

    private static void privateNames() {
        TreeSet<String> face = new TreeSet<>();
        for (Method method : NailGold.class.getDeclaredMethods()) {
            if (Modifier.isPublic(method.getModifiers())) {
                face.add(method.getName());
            }
        }
        List<Class<?>> all = new ArrayList<>(Arrays.asList(NailGold.class.getDeclaredClasses()));
        Run.check("classes in the file", String.valueOf(all.size() + 1 <= 12), "true");
        all.add(NailGold.class);
        for (Class<?> one : all) {
            Run.check(one + " is static", String.valueOf(one == NailGold.class || Modifier.isStatic(one.getModifiers())), "true");
            int fields = 0;
            for (Field field : one.getDeclaredFields()) {
                fields += Modifier.isStatic(field.getModifiers()) ? 0 : 1;
            }
            Run.check("fields of " + one + ": " + fields, String.valueOf(fields <= 20), "true");
            for (Method method : one.getDeclaredMethods()) {
                Run.check("parameters of " + method, String.valueOf(method.getParameterCount() <= 7), "true");
                boolean twice = !Modifier.isPublic(method.getModifiers()) && face.contains(method.getName());
                Run.check("a name of the face is borne by " + method, String.valueOf(twice), "false");
            }
        }
    }

    private static void source(String text) {
        String code = text.replaceAll("(?s)/\\*.*?\\*/", "").replaceAll("//[^\n]*", "").replaceAll("\"[^\"]*\"", "\"\"");
        String[] never = {"\\btry\\b", "\\bcatch\\b", "\\bfinally\\b", "\\bassert\\b", "\\bsynchronized\\b", "->", "::", "\\bpackage\\b",
            "\\bMap\\b", "\\bSystem\\.(?!arraycopy\\b)", "Exact\\b", "\\bhashCode\\b", "\\btoString\\b", "\\bequals\\b", "\\bdouble\\b",
            "\\bfloat\\b", "\\bstatic \\{", "\\bprotected\\b", "\\bwhile \\(true\\)", "\\bfor \\(;;\\)"};
        for (String word : never) {
            Run.check("the file has " + word, String.valueOf(Pattern.compile(word).matcher(code).find()), "false");
        }
        Matcher imports = Pattern.compile("(?m)^import ([^;]*);").matcher(text);
        while (imports.find()) {
            boolean listed = imports.group(1).equals("java.util.Arrays") || imports.group(1).equals("java.util.NoSuchElementException");
            Run.check("import " + imports.group(1), String.valueOf(listed), "true");
        }
        Run.check("signs are 1 to 127", String.valueOf(text.chars().allMatch(sign -> sign > 0 && sign < 128)), "true");
        Run.check("tabs", String.valueOf(text.indexOf('\t')), "-1");
    }

    private static void methodLengths(List<String> lines) {
        int begin = -1;
        for (int i = 0; i < lines.size(); i++) {
            String line = lines.get(i);
            if (line.matches("( {4}| {8})[a-zA-Z][^=;]*\\(.*\\{") || line.matches("( {4}| {8})(public|private) [^=;]*\\([^)]*\\)?$")) {
                begin = i;
            }
            if (line.matches("( {4}| {8})\\}") && begin >= 0) {
                Run.check("length of " + lines.get(begin).trim(), String.valueOf(i - begin <= 60), "true");
                begin = -1;
            }
        }
    }
}
