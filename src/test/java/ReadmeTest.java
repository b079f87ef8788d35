import java.io.PrintWriter;
import java.io.StringWriter;
import java.lang.reflect.InvocationTargetException;
import java.lang.reflect.Method;
import java.lang.reflect.Modifier;
import java.net.URL;
import java.net.URLClassLoader;
import java.nio.file.Files;
import java.nio.file.Path;
import java.util.Comparator;
import java.util.List;
import java.util.function.Supplier;
import java.util.regex.Matcher;
import java.util.regex.Pattern;
import java.util.stream.Stream;
import javax.tools.ToolProvider;

/**
 * README.md's example is true: its lines are made a class, and each one with an arrow is held to the
 * answer that it tells; every call of the face is among them.
 */
public final class ReadmeTest extends Checks {
    private static final Pattern TOLD = Pattern.compile("(int (\\w+) = )?(rows\\.\\w+\\(.*\\));\\s*// -> ([-\\w]+).*");
    private static final int LEAST_LINES = 30;

    /** What a line of the example answers, by the words that README.md uses for it. */
    public static void due(String want, String line, Supplier<Object> call) {
        String got;
        try {
            got = String.valueOf(call.get());
        } catch (RuntimeException e) {
            got = e.getClass().getSimpleName();
        }
        if (!want.equals(got)) {
            System.out.println("README.md: " + line);
        }
        is(want, got);
    }

    private static String example(String readme) {
        int start = readme.indexOf("```java\n");
        int end = readme.indexOf("\n```\n", start + 1);
        return start < 0 || end < 0 ? "" : readme.substring(start + "```java\n".length(), end);
    }

    private static String codeOf(String line) {
        Matcher told = TOLD.matcher(line);
        if (!told.matches()) {
            return line;
        }
        boolean kept = told.group(1) != null;
        boolean isVoid = told.group(3).matches("rows\\.(share|correct|settle|tell)\\(.*");
        String body = kept ? "return " + told.group(2) + ";"
                : isVoid ? told.group(3) + "; return 0;"
                : "return " + told.group(3) + ";";
        return (kept ? line + "\n" : "")
                + "ReadmeTest.due(\"" + told.group(4) + "\", \"" + line.replace("\"", "\\\"") + "\", () -> { " + body + " });";
    }

    private static String classOf(String example) {
        StringBuilder text = new StringBuilder("public final class Example { public static void main(String[] args) {\n");
        for (String line : example.split("\n")) {
            text.append(codeOf(line)).append('\n');
        }
        return text.append("} }\n").toString();
    }

    private static void runExample(String example) throws Exception {
        Path dir = Files.createTempDirectory("readme");
        try {
            Path source = Files.writeString(dir.resolve("Example.java"), classOf(example));
            String path = System.getProperty("java.class.path");
            int failed = ToolProvider.getSystemJavaCompiler().run(null, null, null, "-cp", path, "-d", dir.toString(), source.toString());
            is(0, failed);
            if (failed == 0) {
                try (URLClassLoader loader = new URLClassLoader(new URL[] {dir.toUri().toURL()}, ReadmeTest.class.getClassLoader())) {
                    loader.loadClass("Example").getMethod("main", String[].class).invoke(null, (Object) new String[0]);
                }
            }
        } finally {
            try (Stream<Path> all = Files.walk(dir)) {
                for (Path p : all.sorted(Comparator.reverseOrder()).toList()) {
                    Files.delete(p);
                }
            }
        }
    }

    private static void checkCalls(String example) {
        for (Method m : OwnerRows.class.getDeclaredMethods()) {
            if (Modifier.isPublic(m.getModifiers()) && !example.contains("rows." + m.getName() + "(")) {
                report("no line shows " + m.getName());
            }
        }
        List<String> told = example.lines().filter(line -> line.contains("// ->")).toList();
        is(true, told.size() >= LEAST_LINES);
        for (String line : told) {
            is(true, TOLD.matcher(line).matches());
        }
    }

    public static void main(String[] args) throws Exception {
        String example = example(Files.readString(Path.of("README.md")));
        part("README.md shows each call of the face", () -> checkCalls(example));
        part("README.md's lines answer what they tell", () -> {
            try {
                runExample(example);
            } catch (InvocationTargetException e) {
                report("the example ended by " + e.getCause());
            } catch (Exception e) {
                StringWriter trace = new StringWriter();
                e.printStackTrace(new PrintWriter(trace));
                report("the example did not run: " + trace);
            }
        });
        end();
    }
}
