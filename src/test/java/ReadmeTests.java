import java.io.File;
import java.io.IOException;
import java.lang.reflect.Method;
import java.lang.reflect.Modifier;
import java.nio.file.Files;
import java.nio.file.Path;
import java.util.ArrayList;
import java.util.List;
import javax.tools.JavaCompiler;
import javax.tools.ToolProvider;

/** The examples of README.md are compiled and gone through; each answers what the comment behind it tells. */
public final class ReadmeTests {
    private static final String NAME = "ReadmeExample";

    public static void main(String[] args) throws IOException {
        List<String> readme = Files.readAllLines(Path.of("README.md"));
        Path dir = Files.createTempDirectory("readme");
        try {
            Path source = dir.resolve(NAME + ".java");
            Files.write(source, program(readme));
            JavaCompiler javac = ToolProvider.getSystemJavaCompiler();
            int failed = javac.run(null, null, null, "-cp", System.getProperty("java.class.path"),
                    "-d", dir.toString(), source.toString());
            Check.same("javac of the examples", failed, 0);
            if (failed == 0) {
                run(dir);
            }
        } finally {
            Files.deleteIfExists(dir.resolve(NAME + ".java"));
            Files.deleteIfExists(dir.resolve(NAME + ".class"));
            Files.deleteIfExists(dir);
        }
        allCallsAreShown(readme);
        Check.finish("ReadmeTests");
    }

    /** In a process of its own, as a class of another loader may not use what Check keeps to its package. */
    private static void run(Path dir) throws IOException {
        String path = System.getProperty("java.class.path") + File.pathSeparator + dir;
        Process process = new ProcessBuilder(Path.of(System.getProperty("java.home"), "bin", "java").toString(),
                "-cp", path, NAME).inheritIO().start();
        try {
            Check.same("the examples", process.waitFor(), 0);
        } catch (InterruptedException e) {
            Check.same("the examples were stopped", 1, 0);
        }
    }

    /** Each block of Java is a block of its own in one method. */
    private static List<String> program(List<String> readme) {
        List<String> program = new ArrayList<>();
        program.add("final class " + NAME + " {");
        program.add("    public static void main(String[] args) {");
        boolean isJava = false;
        for (String line : readme) {
            if (line.startsWith("```")) {
                program.add(line.equals("```java") ? "{" : isJava ? "}" : "");
                isJava = line.equals("```java");
            } else if (isJava) {
                program.add(checked(line));
            }
        }
        program.add("        Check.finish(\"the examples of README.md\");");
        program.add("    }");
        program.add("}");
        return program;
    }

    private static String checked(String line) {
        int comment = line.indexOf("// ");
        int end = line.indexOf(": ", comment);
        if (comment < 0 || end < 0) {
            return line;
        }
        String call = line.substring(0, comment).strip();
        call = call.substring(0, call.length() - 1);
        String due = line.substring(comment + 3, end);
        if (due.startsWith("throws ")) {
            return "Check.fails(\"" + line.replace("\"", "'") + "\", " + due.substring(7) + ".class, () -> " + call + ");";
        }
        return "Check.same(\"" + line.replace("\"", "'") + "\", " + call + ", " + due + ");";
    }

    /** README.md says how to use the class: no call of the face is left out. */
    private static void allCallsAreShown(List<String> readme) {
        String all = String.join("\n", readme);
        for (Method method : WallHarbour.class.getDeclaredMethods()) {
            if (Modifier.isPublic(method.getModifiers())) {
                String name = method.getName();
                Check.tell(all.contains("." + name + "("), "README.md shows no " + name);
            }
        }
    }
}
