import java.io.IOException;
import java.lang.reflect.Field;
import java.lang.reflect.Method;
import java.lang.reflect.Modifier;
import java.nio.file.Files;
import java.nio.file.Path;
import java.util.ArrayList;
import java.util.Arrays;
import java.util.Collections;
import java.util.List;

/** The public face as the document has it, and what can be seen of LANGUAGE.md's rules in the text. */
public final class FaceTest {
    private static final Check CHECK = new Check("FaceTest");
    private static final String[] FORBIDDEN = {"->", "::", "catch", "finally", "synchronized", "assert",
        "instanceof", "Exact(", "Integer.", "Long.", "System.", "Thread", "Random", "java.io", "java.nio", "extends",
        "@", "\" +", "+ \"", "transient", "volatile", "native", "toString", "hashCode"};

    public static void main(String[] args) throws IOException {
        members();
        text();
        CHECK.end();
    }

    /** The lines of the document's interface, less their blanks, against the class's own members. */
    private static void members() throws IOException {
        List<String> due = new ArrayList<>();
        boolean inside = false;
        for (String line : Files.readAllLines(Path.of("../shared/DOC.md"))) {
            inside = !line.startsWith("```") && (inside || line.startsWith("public final class"));
            if (inside && line.startsWith("    public")) {
                due.add(line.replace(" ", "").replaceAll("=.*", "").replace(";", "")
                        .replaceAll("(int|long)([a-z]+)([,)])", "$1$3"));
            }
        }
        List<String> got = new ArrayList<>();
        for (Method m : LightestSack.class.getDeclaredMethods()) {
            if (!Modifier.isPrivate(m.getModifiers())) {
                got.add(plain(m.toGenericString()));
            }
        }
        for (Field f : LightestSack.class.getDeclaredFields()) {
            if (!Modifier.isPrivate(f.getModifiers())) {
                got.add(plain(f.toGenericString()));
            }
        }
        got.add(plain(LightestSack.class.getDeclaredConstructors()[0].toGenericString()));
        CHECK.due("constructors", LightestSack.class.getDeclaredConstructors().length, 1);
        Collections.sort(due);
        Collections.sort(got);
        CHECK.due("the face is " + got + ", due is " + due, got.equals(due) ? 1 : 0, 1);
        CHECK.due("members", got.size(), 41);
        CHECK.due("final", LightestSack.class.getModifiers(), Modifier.PUBLIC | Modifier.FINAL);
        nested();
    }

    private static String plain(String member) {
        return member.replace("LightestSack.", "").replace("java.util.", "").replace("java.lang.", "")
                .replace(" ", "");
    }

    private static void nested() {
        List<String> open = new ArrayList<>();
        for (Method m : LightestSack.class.getDeclaredMethods()) {
            if (Modifier.isPublic(m.getModifiers())) {
                open.add(m.getName());
            }
        }
        List<Class<?>> all = new ArrayList<>(List.of(LightestSack.class.getDeclaredClasses()));
        CHECK.due("classes inside", all.size() <= 11 ? 1 : 0, 1);
        for (Class<?> c : all) {
            int flags = c.getModifiers();
            CHECK.due(c + " is static and not open", Modifier.isStatic(flags)
                    && !Modifier.isPublic(flags) && !Modifier.isProtected(flags) ? 1 : 0, 1);
        }
        all.add(LightestSack.class);
        for (Class<?> c : all) {
            int fields = 0;
            for (Field f : c.getDeclaredFields()) {
                boolean still = Modifier.isStatic(f.getModifiers());
                CHECK.due(f + " is final", !still || Modifier.isFinal(f.getModifiers()) ? 1 : 0, 1);
                fields += still ? 0 : 1;
            }
            CHECK.due(c + " has few fields", fields <= 20 ? 1 : 0, 1);
            for (Method m : c.getDeclaredMethods()) {
                boolean bears = open.contains(m.getName()) && !Modifier.isPublic(m.getModifiers());
                CHECK.due(m + " bears a public name", bears ? 1 : 0, 0);
                CHECK.due(m + " has few parameters", m.getParameterCount() <= 7 ? 1 : 0, 1);
            }
        }
    }

    private static void text() throws IOException {
        String all = Files.readString(Path.of("src/main/java/LightestSack.java"));
        String code = all.replaceAll("(?s)/\\*.*?\\*/", "").replaceAll("//[^\n]*", "");
        for (String word : FORBIDDEN) {
            CHECK.due("stands in the text: " + word, code.contains(word) ? 1 : 0, 0);
        }
        int[] imports = {0, 0};
        for (String line : code.split("\n")) {
            imports[0] += line.startsWith("import ") ? 1 : 0;
            imports[1] += line.startsWith("package ") ? 1 : 0;
            CHECK.due("a long line: " + line, line.length() > 100 ? 1 : 0, 0);
        }
        CHECK.due("imports", imports[0], 1);
        CHECK.due("package lines", imports[1], 0);
        CHECK.due("signs above 126", (int) all.chars().filter(c -> c > 126).count(), 0);
        news(code);
        methodsAreShort(code);
    }

    /** Only constructors, field initialisers and throws make objects, so no call fills the room. */
    private static void news(String code) {
        int made = 0;
        for (String line : code.split("\n")) {
            boolean field = line.matches(" +private final .* = new .*;");
            boolean thrown = line.matches(" +throw new [A-Za-z]+\\(\"[a-z ]+\"\\);");
            made += line.contains("new ") && !field && !thrown ? 1 : 0;
        }
        // The trays and the images in the constructor, and the cells of a row.
        CHECK.due("lines that make objects", made, 3);
    }

    private static void methodsAreShort(String code) {
        String[] lines = code.split("\n");
        int from = 0;
        for (int i = 0; i < lines.length; i++) {
            if (lines[i].matches("(    |        )[a-zA-Z].*[({].*") && !lines[i].contains(" = ")) {
                from = i;
            }
            if (lines[i].equals("    }") || lines[i].equals("        }")) {
                CHECK.due("a long method: " + lines[from], i - from > 60 ? 1 : 0, 0);
            }
        }
        CHECK.due("lines", Arrays.asList(lines).size() > 500 ? 1 : 0, 1);
    }
}
