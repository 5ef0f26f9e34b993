import java.lang.reflect.Method;
import java.lang.reflect.Modifier;
import java.net.URL;
import java.net.URLClassLoader;
import java.nio.file.Files;
import java.nio.file.Path;
import java.util.regex.Matcher;
import java.util.regex.Pattern;
import javax.tools.JavaCompiler;
import javax.tools.ToolProvider;

/** README.md's example compiles and answers what stands beside each call; its table names every call. */
public final class ReadmeTest {
    private static final Pattern ANSWERED = Pattern.compile("(x\\..*\\)); +// (-?\\d+): .*");
    private static int checked = 0;
    private static int wrong = 0;

    /** The compiled example calls this. */
    public static void due(String call, long got, long want) {
        checked++;
        if (got != want) {
            wrong++;
            System.out.println("README.md: " + call + " answered " + got + ", due is " + want);
        }
    }

    public static void main(String[] args) throws Exception {
        Path source = Path.of(args.length > 0 ? args[0] : "src/main/java/ShadowTax.java").toAbsolutePath();
        String readme = Files.readString(source.resolve("../../../../README.md").normalize());
        runExample(readme);
        namesEveryCall(readme);
        if (checked < 10) {
            wrong++;
            System.out.println("README.md: only " + checked + " calls were answered");
        }
        System.out.println(wrong == 0 ? "README.md's " + checked + " calls answer so" : wrong + " faults");
        if (wrong != 0) {
            System.exit(1);
        }
    }

    private static String block(String readme) {
        int from = readme.indexOf("```java\n") + 8;
        return readme.substring(from, readme.indexOf("```", from));
    }

    private static void runExample(String readme) throws Exception {
        StringBuilder program = new StringBuilder("public class Example { public static void run() {\n");
        for (String line : block(readme).split("\n")) {
            Matcher m = ANSWERED.matcher(line);
            if (m.matches()) {
                program.append("ReadmeTest.due(\"").append(m.group(1)).append("\", ");
                program.append(m.group(1)).append(", ").append(m.group(2)).append("L);\n");
            } else {
                program.append(line).append('\n');
            }
        }
        program.append("} }\n");
        Path room = Files.createTempDirectory("readme");
        try {
            runIn(room, program.toString());
        } finally {
            Files.deleteIfExists(room.resolve("Example.java"));
            Files.deleteIfExists(room.resolve("Example.class"));
            Files.deleteIfExists(room);
        }
    }

    private static void runIn(Path room, String program) throws Exception {
        Path file = Files.writeString(room.resolve("Example.java"), program);
        JavaCompiler compiler = ToolProvider.getSystemJavaCompiler();
        int exit = compiler.run(null, null, null, "--release", "17", "-proc:none",
            "-cp", System.getProperty("java.class.path"), "-d", room.toString(), file.toString());
        if (exit != 0) {
            wrong++;
            System.out.println("README.md: the example does not compile");
            return;
        }
        try (URLClassLoader loader = new URLClassLoader(new URL[] {room.toUri().toURL()})) {
            loader.loadClass("Example").getMethod("run").invoke(null);
        }
    }

    private static void namesEveryCall(String readme) {
        StringBuilder table = new StringBuilder();
        for (String line : readme.split("\n")) {
            if (line.startsWith("| `")) {
                table.append(line, 0, line.indexOf('|', 1)).append('\n');
            }
        }
        for (Method m : ShadowTax.class.getDeclaredMethods()) {
            if (Modifier.isPublic(m.getModifiers()) && table.indexOf("`" + m.getName() + "`") < 0) {
                wrong++;
                System.out.println("README.md: the table lacks " + m.getName());
            }
        }
    }
}
