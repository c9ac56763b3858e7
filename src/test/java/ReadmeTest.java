import java.io.IOException;
import java.lang.reflect.Method;
import java.lang.reflect.Modifier;
import java.nio.charset.StandardCharsets;
import java.nio.file.Files;
import java.nio.file.Path;
import java.nio.file.StandardCopyOption;
import java.util.ArrayList;
import java.util.List;

/** Does what README.md tells to do, to the letter, in a folder of its own. */
public final class ReadmeTest {
    private static final Check CHECK = new Check("ReadmeTest");
    private static final Path FOLDER = Path.of("build/readme");
    private static final Path PROGRAM = Path.of("src/main/java/LightestSack.java");

    public static void main(String[] args) throws IOException, InterruptedException {
        List<String> lines = Files.readAllLines(Path.of("README.md"));
        copy(PROGRAM);
        copyTests();
        example(lines);
        tests(lines);
        names(String.join("\n", lines));
        CHECK.end();
    }

    private static void example(List<String> lines) throws IOException, InterruptedException {
        Files.writeString(FOLDER.resolve("Example.java"), block(lines, "java", 0));
        CHECK.due("the README's example prints what it says",
                follow(block(lines, "sh", 0)).equals(block(lines, "text", 0)) ? 1 : 0, 1);
    }

    private static void tests(List<String> lines) throws IOException, InterruptedException {
        CHECK.due("the script it names", block(lines, "sh", 1).equals(".ci/run\n") ? 1 : 0, 1);
        CHECK.due("can be run", Files.isExecutable(Path.of(".ci/run")) ? 1 : 0, 1);
        String printed = follow(block(lines, "sh", 2));
        CHECK.due("one test alone", printed.matches("[A-Za-z]+Test: [0-9]+ looked at, 0 wrong\n") ? 1 : 0, 1);
        CHECK.due("no other commands", block(lines, "sh", 3).isEmpty() ? 1 : 0, 1);
    }

    /** Each call of the face is told of, and no call that there isn't. */
    private static void names(String text) {
        List<String> face = new ArrayList<>();
        for (Method m : LightestSack.class.getDeclaredMethods()) {
            if (Modifier.isPublic(m.getModifiers())) {
                face.add(m.getName());
                CHECK.due("README.md tells of " + m.getName(), told(text, m.getName()) ? 1 : 0, 1);
            }
        }
        CHECK.due("calls of the face", face.size(), 38);
        for (String part : text.replaceAll("(?s)```.*?```", "").split("`")) {
            if (part.matches("[a-z][A-Za-z]+") && !part.equals("src")) {
                CHECK.due("README.md names " + part, face.contains(part) ? 1 : 0, 1);
            }
        }
    }

    private static boolean told(String text, String name) {
        return text.contains("`" + name + "`") || text.contains("`" + name + "(n)`");
    }

    private static void copy(Path file) throws IOException {
        Path to = FOLDER.resolve(file);
        Files.createDirectories(to.getParent());
        Files.copy(file, to, StandardCopyOption.REPLACE_EXISTING);
    }

    private static void copyTests() throws IOException {
        try (var files = Files.newDirectoryStream(Path.of("src/test/java"), "*.java")) {
            for (Path file : files) {
                copy(file);
            }
        }
    }

    /** The k-th block of a kind, from 0 on; an empty text: not so many. */
    private static String block(List<String> lines, String kind, int k) {
        StringBuilder text = new StringBuilder();
        int seen = -1;
        boolean inside = false;
        for (String line : lines) {
            if (inside && line.equals("```")) {
                inside = false;
            } else if (line.equals("```" + kind)) {
                seen++;
                inside = true;
            } else if (inside && seen == k) {
                text.append(line).append('\n');
            }
        }
        return text.toString();
    }

    /** What the commands print together; the first that fails ends them. */
    private static String follow(String commands) throws IOException, InterruptedException {
        Process shell = new ProcessBuilder("bash", "-e", "-c", commands).directory(FOLDER.toFile())
                .redirectErrorStream(true).start();
        shell.getOutputStream().close();
        String printed = new String(shell.getInputStream().readAllBytes(), StandardCharsets.UTF_8);
        CHECK.due("README.md's commands end well: " + commands, shell.waitFor(), 0);
        return printed.replace("\r", "");
    }
}
