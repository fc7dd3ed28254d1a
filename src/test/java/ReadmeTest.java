import java.io.File;
import java.io.IOException;
import java.nio.file.Files;
import java.nio.file.Path;
import java.util.ArrayList;
import java.util.List;
import javax.tools.ToolProvider;

/** Each line of README.md's program, compiled as it stands there, must answer what stands behind it. */
public final class ReadmeTest {
    private static final String NAME = "ReadmeProgram";
    private static final int LEAST_LINES = 25;

    public static void main(String[] args) throws Exception {
        List<String> readme = Files.readAllLines(Path.of("README.md"));
        List<String> lines = programOf(readme);
        Check.same("README.md has a program", lines.size() >= LEAST_LINES, true);
        Path place = Files.createTempDirectory("readme");
        try {
            run(place, sourceOf(lines));
        } finally {
            remove(place);
        }
        testsAreNamed(String.join("\n", readme));
        Check.end("ReadmeTest");
    }

    private static List<String> programOf(List<String> readme) {
        int begin = readme.indexOf("```java");
        int end = readme.lastIndexOf("```");
        List<String> lines = new ArrayList<>();
        for (int k = begin + 1; k > 0 && k < end; k++) {
            if (!readme.get(k).isBlank()) {
                lines.add(readme.get(k));
            }
        }
        return lines;
    }

    private static String sourceOf(List<String> lines) {
        StringBuilder source = new StringBuilder("final class " + NAME + " {\n");
        source.append("    public static void main(String[] args) {\n");
        for (String line : lines) {
            source.append(checked(line)).append('\n');
        }
        source.append("Check.end(\"the program of README.md\");\n");
        return source.append("    }\n}\n").toString();
    }

    /** The line itself; if an answer stands behind it, the line with a check of that answer. */
    private static String checked(String line) {
        int comment = line.indexOf("//");
        if (comment < 0) {
            return line;
        }
        String code = line.substring(0, comment).strip();
        String due = dueOf(line.substring(comment + 2).strip());
        String text = "\"README.md: " + code + "\"";
        int named = code.indexOf(" = ");
        if (named >= 0) {
            String name = code.substring(code.indexOf(' ') + 1, named);
            return code + " Check.same(" + text + ", " + name + ", " + due + ");";
        }
        String call = code.substring(0, code.length() - 1);
        return "Check.same(" + text + ", Check.answer(() -> " + call + "), " + due + ");";
    }

    /** The first word of what stands behind a line, as Java text; two words of one that throws. */
    private static String dueOf(String comment) {
        String[] words = comment.split("[ ,:]+");
        if (words[0].equals("throws")) {
            return "\"throws." + words[1] + "\"";
        }
        return words[0].equals("NONE") ? "CableOffice.NONE" : words[0];
    }

    private static void run(Path place, String source) throws Exception {
        Path file = place.resolve(NAME + ".java");
        Files.writeString(file, source);
        String classes = System.getProperty("java.class.path");
        int compiled = ToolProvider.getSystemJavaCompiler().run(null, null, null,
                "-cp", classes, "-d", place.toString(), file.toString());
        Check.same("compiling README.md's program", compiled, 0);
        if (compiled == 0) {
            // A machine of its own, as a class that is loaded here would not see Check.
            String java = Path.of(System.getProperty("java.home"), "bin", "java").toString();
            int ran = new ProcessBuilder(java, "-cp", classes + File.pathSeparator + place, NAME)
                    .inheritIO().start().waitFor();
            Check.same("running README.md's program", ran, 0);
        }
    }

    private static void remove(Path place) throws IOException {
        for (String name : new String[] {NAME + ".java", NAME + ".class"}) {
            Files.deleteIfExists(place.resolve(name));
        }
        Files.delete(place);
    }

    /** README.md must tell of each test, and of no test that is not there. */
    private static void testsAreNamed(String readme) throws IOException {
        try (var files = Files.list(Path.of("src/test/java"))) {
            for (Path file : (Iterable<Path>) files::iterator) {
                String name = file.getFileName().toString().replace(".java", "");
                Check.same("README.md names " + name, readme.contains("`" + name + "`"), true);
            }
        }
        for (String line : readme.split("\n")) {
            if (line.startsWith("- `") && line.contains("Test`")) {
                String name = line.substring(3, line.indexOf('`', 3));
                Check.same(name + " is there", Files.exists(Path.of("src/test/java/" + name + ".java")), true);
            }
        }
    }
}
