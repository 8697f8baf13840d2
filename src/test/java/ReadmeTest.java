import java.io.IOException;
import java.lang.reflect.Method;
import java.lang.reflect.Modifier;
import java.net.URL;
import java.net.URLClassLoader;
import java.nio.file.Files;
import java.nio.file.Path;
import java.util.ArrayList;
import java.util.List;
import java.util.regex.Matcher;
import java.util.regex.Pattern;
import java.util.stream.Stream;
import javax.tools.JavaCompiler;
import javax.tools.ToolProvider;

/**
 * README.md's examples: its Java compiles as it stands there, and each call answers the number that is
 * told behind it. Its table has each call of the document's face.
 */
public final class ReadmeTest {
    private static final Check CHECK = new Check("ReadmeTest");
    private static final Pattern BLOCK = Pattern.compile("(?ms)^```java\n(.*?)^```$");
    private static final Pattern CALL = Pattern.compile("(tree\\.\\w+\\(.*\\)); +// (-?\\d+)(:.*)?");

    public static void main(String[] args) throws Exception {
        String readme = Files.readString(Path.of("README.md"));
        examples(readme);
        calls(readme);
        CHECK.report();
    }

    private static void examples(String readme) throws Exception {
        List<String> helpers = new ArrayList<>();
        List<String> programs = new ArrayList<>();
        Matcher block = BLOCK.matcher(readme);
        while (block.find()) {
            String text = block.group(1);
            if (text.startsWith("static ")) {
                helpers.add(text);
            } else {
                programs.add(program(text));
            }
        }
        CHECK.so("README.md has examples", !programs.isEmpty());
        for (Object[] row : run(source(helpers, programs))) {
            CHECK.due("README.md: " + row[0], (long) row[1], (long) row[2]);
        }
    }

    /** Each call becomes a row of its text, its answer, the number told behind it; the rest stays. */
    private static String program(String example) {
        StringBuilder b = new StringBuilder("{\n");
        int calls = 0;
        for (String line : example.split("\n")) {
            Matcher call = CALL.matcher(line);
            if (call.matches()) {
                calls++;
                b.append("rows.add(new Object[] {\"").append(call.group(1).replace("\"", "\\\"")).append("\", (long) ");
                b.append(call.group(1)).append(", ").append(call.group(2)).append("L});\n");
            } else {
                CHECK.so("a call of README.md without its answer: " + line, !line.startsWith("tree."));
                b.append(line).append('\n');
            }
        }
        CHECK.so("an example of README.md has calls", calls > 0);
        return b.append("}\n").toString();
    }

    private static String source(List<String> helpers, List<String> programs) {
        return "public final class ReadmeExample {\n" + String.join("\n", helpers)
            + "public static java.util.List<Object[]> rows() {\n"
            + "java.util.List<Object[]> rows = new java.util.ArrayList<>();\n"
            + String.join("\n", programs) + "return rows;\n}\n}\n";
    }

    private static List<Object[]> run(String source) throws Exception {
        Path folder = Files.createTempDirectory("readme");
        try {
            Path file = Files.writeString(folder.resolve("ReadmeExample.java"), source);
            JavaCompiler compiler = ToolProvider.getSystemJavaCompiler();
            String classes = System.getProperty("java.class.path");
            int exit = compiler.run(null, null, null, "-cp", classes, "-d", folder.toString(), file.toString());
            CHECK.due("README.md's Java compiles", exit, 0);
            return exit == 0 ? rows(folder) : List.of();
        } finally {
            remove(folder);
        }
    }

    private static List<Object[]> rows(Path folder) throws Exception {
        List<Object[]> rows = new ArrayList<>();
        try (URLClassLoader loader = new URLClassLoader(new URL[] {folder.toUri().toURL()})) {
            for (Object row : (List<?>) loader.loadClass("ReadmeExample").getMethod("rows").invoke(null)) {
                rows.add((Object[]) row);
            }
        }
        CHECK.so("README.md's calls were made", rows.size() > 20);
        return rows;
    }

    private static void remove(Path folder) throws IOException {
        try (Stream<Path> files = Files.list(folder)) {
            for (Path file : files.toList()) {
                Files.delete(file);
            }
        }
        Files.delete(folder);
    }

    private static void calls(String readme) {
        int all = 0;
        for (Method m : GraceTree.class.getDeclaredMethods()) {
            if (Modifier.isPublic(m.getModifiers())) {
                all++;
                CHECK.so("README.md's table has " + m.getName(), readme.matches("(?s).*\n\\| [^\n]*`" + m.getName() + "`.*"));
            }
        }
        CHECK.due("calls of the face", all, 43);
    }
}
