import java.io.File;
import java.net.URL;
import java.net.URLClassLoader;
import java.nio.file.Files;
import java.nio.file.Path;
import java.util.Comparator;
import java.util.List;
import java.util.regex.Matcher;
import java.util.regex.Pattern;
import java.util.stream.Stream;
import javax.tools.ToolProvider;

/** Runs the lines of README.md: each call with "// answers .." behind it must answer just that. */
public final class ReadmeTest {
    private static final Pattern CALL = Pattern.compile("(.*);\\s*// answers (-?\\d+|true|false)\\b.*");
    private static final Due due = new Due("ReadmeTest");

    public static void main(String[] args) throws Exception {
        Path made = Files.createTempDirectory("readme");
        try {
            run(made, program(Files.readAllLines(Path.of("README.md"))));
        } finally {
            try (Stream<Path> all = Files.walk(made)) {
                all.sorted(Comparator.reverseOrder()).map(Path::toFile).forEach(File::delete);
            }
        }
        due.close();
    }

    /** Called by the program that is made of README.md. */
    public static void answer(String call, Object got, Object want) {
        due.is(call + ": " + got + " instead of " + want, got.equals(want) ? 1 : 0, 1);
    }

    /** A block that begins with "static" stands among the methods, the others one behind another in use(). */
    private static String program(List<String> lines) {
        StringBuilder methods = new StringBuilder();
        StringBuilder steps = new StringBuilder();
        StringBuilder block = null;
        int calls = 0;
        for (String line : lines) {
            Matcher call = CALL.matcher(line);
            if (line.equals("```java")) {
                block = new StringBuilder();
            } else if (line.equals("```") && block != null) {
                (block.toString().startsWith("static") ? methods : steps).append(block);
                block = null;
            } else if (block != null && call.matches()) {
                String asked = call.group(1);
                block.append("ReadmeTest.answer(\"").append(asked.replace("\"", "'")).append("\", ").append(asked)
                    .append(", ").append(call.group(2)).append(");\n");
                calls++;
            } else if (block != null) {
                block.append(line).append("\n");
            }
        }
        due.yes("calls were found", calls > 20 && methods.length() > 0);
        return "public final class Readme {\n" + methods + "public static void use() {\n" + steps + "}\n}\n";
    }

    private static void run(Path made, String program) throws Exception {
        Path source = Files.writeString(made.resolve("Readme.java"), program);
        int failed = ToolProvider.getSystemJavaCompiler().run(null, null, null, "-cp",
            System.getProperty("java.class.path"), "-d", made.toString(), source.toString());
        due.is("README.md compiles", failed, 0);
        if (failed != 0) {
            return;
        }
        try (URLClassLoader loader = new URLClassLoader(new URL[] {made.toUri().toURL()})) {
            loader.loadClass("Readme").getMethod("use").invoke(null);
        }
    }
}
