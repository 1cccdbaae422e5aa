import java.io.File;
import java.io.IOException;
import java.net.URL;
import java.net.URLClassLoader;
import java.nio.charset.StandardCharsets;
import java.nio.file.Files;
import java.nio.file.Path;
import java.nio.file.Paths;
import java.util.ArrayList;
import java.util.List;
import java.util.regex.Matcher;
import java.util.regex.Pattern;
import javax.tools.JavaCompiler;
import javax.tools.ToolProvider;

/**
 * The examples of README.md: its blocks of Java are compiled and run, and each line of theirs that ends with
 * "// answer" or "// answer: why" has to answer so.
 */
public final class ReadmeTest {
    private static final Pattern ANSWERED =
            Pattern.compile("\\s*([a-z]\\w*\\.[^;=]*\\));\\s*// (-?\\d+|'.'|true|false)(:.*)?");

    public static void main(String[] args) throws Exception {
        List<String> code = new ArrayList<>();
        int answers = 0;
        boolean isInBlock = false;
        for (String line : Files.readAllLines(Paths.get("README.md"), StandardCharsets.UTF_8)) {
            Matcher m = ANSWERED.matcher(line);
            if (line.startsWith("```")) {
                if (isInBlock || line.equals("```java")) {
                    code.add(isInBlock ? "}" : "{");
                    isInBlock = !isInBlock;
                }
            } else if (isInBlock && m.matches()) {
                answers++;
                code.add("Check.same(\"" + m.group(1).replace("\"", "\\\"") + "\", " + m.group(1) + ", " + m.group(2) + ");");
            } else if (isInBlock) {
                code.add(line);
            }
        }
        Check.same("README.md has examples with answers", answers >= 10, true);
        run(code);
        Check.finish("ReadmeTest");
    }

    private static void run(List<String> code) throws Exception {
        Path folder = Files.createTempDirectory("readme");
        try {
            Path file = folder.resolve("ReadmeExamples.java");
            Files.write(file, ("public final class ReadmeExamples {\n  public static void run() {\n"
                    + String.join("\n", code) + "\nCheck.finish(\"The examples of README.md\");\n  }\n}\n").getBytes(StandardCharsets.UTF_8));
            JavaCompiler compiler = ToolProvider.getSystemJavaCompiler();
            int failed = compiler.run(null, System.out, System.out, "-d", folder.toString(),
                    "-cp", System.getProperty("java.class.path"), file.toString());
            Check.same("the examples of README.md compile", failed, 0);
            if (failed == 0) {
                // All from one loader: a class without "public" is seen by those of its own loader alone.
                List<URL> where = new ArrayList<>(List.of(folder.toUri().toURL()));
                for (String path : System.getProperty("java.class.path").split(File.pathSeparator)) {
                    where.add(Paths.get(path).toUri().toURL());
                }
                try (URLClassLoader loader = new URLClassLoader(where.toArray(new URL[0]), null)) {
                    loader.loadClass("ReadmeExamples").getMethod("run").invoke(null);
                }
            }
        } finally {
            remove(folder);
        }
    }

    private static void remove(Path folder) throws IOException {
        try (var files = Files.list(folder)) {
            for (Object file : files.toArray()) {
                Files.delete((Path) file);
            }
        }
        Files.delete(folder);
    }
}
