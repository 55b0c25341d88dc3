import java.io.IOException;
import java.lang.reflect.Field;
import java.lang.reflect.Method;
import java.lang.reflect.Modifier;
import java.nio.file.Files;
import java.nio.file.Path;
import java.util.ArrayList;
import java.util.List;
import java.util.TreeSet;
import java.util.regex.Matcher;
import java.util.regex.Pattern;

/** The public face is the document's and no more, and the file keeps to the rules of LANGUAGE.md that can be seen. */
public final class FaceTest {
    private static final Pattern TOLD_METHOD = Pattern.compile("(?m)^    public (int|long) (\\w+)\\(([^)]*)\\);");
    private static final Pattern TOLD_CONSTANT = Pattern.compile("\\b([A-Z]+) = (-\\d+)(?=[,;])");
    private static final String FORBIDDEN = "\\b(throw|throws|try|catch|synchronized|assert|import static|HashMap"
        + "|Exception|System\\.out|System\\.nanoTime|Random|Thread)\\b|->|::";

    private final List<String> faults = new ArrayList<>();

    public static void main(String[] args) throws IOException, IllegalAccessException {
        FaceTest test = new FaceTest();
        test.face(toldFace(Files.readString(Path.of("../shared/DOC.md"))));
        test.classesInside();
        test.source(Files.readString(Path.of("src/main/java/StillMinutes.java")));
        test.faults.forEach(System.out::println);
        if (!test.faults.isEmpty()) {
            System.exit(1);
        }
    }

    private void need(boolean fine, String what) {
        if (!fine) {
            faults.add(what);
        }
    }

    private static String toldFace(String document) {
        int from = document.indexOf("public final class StillMinutes {");
        return document.substring(from, document.indexOf("```", from));
    }

    private static TreeSet<String> toldMethods(String face) {
        TreeSet<String> all = new TreeSet<>();
        Matcher m = TOLD_METHOD.matcher(face);
        while (m.find()) {
            String types = m.group(3).replaceAll("int \\w+", "int").replace(" ", "");
            all.add(m.group(1) + " " + m.group(2) + "(" + types + ")");
        }
        return all;
    }

    private static TreeSet<String> toldConstants(String face) {
        TreeSet<String> all = new TreeSet<>();
        Matcher m = TOLD_CONSTANT.matcher(face);
        while (m.find()) {
            all.add(m.group(1) + " " + m.group(2));
        }
        return all;
    }

    private void face(String told) throws IllegalAccessException {
        need(toldMethods(told).size() == 28 && toldConstants(told).size() == 5, "the document's face is not found");
        Class<StillMinutes> type = StillMinutes.class;
        need(Modifier.isPublic(type.getModifiers()) && Modifier.isFinal(type.getModifiers()), "public final class");
        TreeSet<String> methods = new TreeSet<>();
        TreeSet<String> publicNames = new TreeSet<>();
        for (Method m : type.getDeclaredMethods()) {
            if (!Modifier.isPrivate(m.getModifiers())) {
                need(Modifier.isPublic(m.getModifiers()) && !Modifier.isStatic(m.getModifiers()), m + " is visible");
                methods.add(signature(m));
                publicNames.add(m.getName());
            }
        }
        need(methods.equals(toldMethods(told)), "the methods are " + methods);
        for (Class<?> inside : withInside()) {
            for (Method m : inside.getDeclaredMethods()) {
                boolean hidden = inside != type || Modifier.isPrivate(m.getModifiers());
                need(!hidden || !publicNames.contains(m.getName()), m + " bears the name of a public one");
                need(m.getParameterCount() <= 7, m + " takes too many parameters");
            }
        }
        TreeSet<String> constants = new TreeSet<>();
        for (Field f : type.getDeclaredFields()) {
            if (!Modifier.isPrivate(f.getModifiers())) {
                need(f.getType() == int.class && Modifier.isFinal(f.getModifiers())
                    && Modifier.isStatic(f.getModifiers()), f + " is no constant");
                constants.add(f.getName() + " " + f.getInt(null));
            }
        }
        need(constants.equals(toldConstants(told)), "the constants are " + constants);
        need(type.getDeclaredConstructors().length == 1 && type.getConstructors().length == 1, "one constructor");
    }

    private static String signature(Method m) {
        List<String> types = new ArrayList<>();
        for (Class<?> c : m.getParameterTypes()) {
            types.add(c.getName());
        }
        return m.getReturnType() + " " + m.getName() + "(" + String.join(",", types) + ")";
    }

    private static List<Class<?>> withInside() {
        List<Class<?>> all = new ArrayList<>(List.of(StillMinutes.class.getDeclaredClasses()));
        all.add(StillMinutes.class);
        return all;
    }

    private void classesInside() {
        need(withInside().size() <= 12, "more than twelve classes");
        for (Class<?> inside : withInside()) {
            int fields = 0;
            for (Field f : inside.getDeclaredFields()) {
                boolean constant = Modifier.isStatic(f.getModifiers());
                need(!constant || Modifier.isFinal(f.getModifiers()), f + " is static, and not final");
                fields += constant ? 0 : 1;
            }
            need(fields <= 20, inside + " has " + fields + " fields");
            need(inside == StillMinutes.class || Modifier.isStatic(inside.getModifiers()), inside + " is not static");
        }
    }

    private void source(String source) {
        String code = source.replaceAll("(?s)/\\*.*?\\*/", "").replaceAll("//[^\n]*", "");
        Matcher m = Pattern.compile(FORBIDDEN).matcher(code);
        while (m.find()) {
            faults.add("the file has " + m.group());
        }
        int from = 0;
        String[] lines = source.split("\n");
        for (int i = 0; i < lines.length; i++) {
            need(lines[i].length() <= 120, "line " + (i + 1) + " is long");
            need(lines[i].chars().allMatch(c -> c >= 32 && c < 127), "line " + (i + 1) + " has odd signs");
            if (lines[i].matches(" {4}(    )?(private|public|static|int|void|boolean|long|\\w+\\().*\\) \\{")) {
                from = i;
            }
            if (lines[i].matches(" {4}(    )?\\}")) {
                need(i - from <= 60, "the method that ends at line " + (i + 1) + " is long");
                from = i;
            }
        }
    }
}
