import java.io.IOException;
import java.lang.reflect.Method;
import java.lang.reflect.Modifier;
import java.net.URL;
import java.net.URLClassLoader;
import java.nio.file.Files;
import java.nio.file.Path;
import java.util.Comparator;
import java.util.regex.Matcher;
import java.util.regex.Pattern;
import java.util.stream.Stream;

/** README.md holds: its example compiles and answers what it says, and its tables tell the face and the settings. */
public final class ReadmeTest {
    private static final Pattern EXAMPLE = Pattern.compile("```java\n(.*?)```", Pattern.DOTALL);
    private static final Pattern ANSWER = Pattern.compile("(gates\\.\\w+\\([^;]*\\));\\s*// (-?\\d+)\\b.*");
    private static final int ANSWERS = 14;

    private static int wrong = 0;

    private static void check(boolean right, String what) {
        if (!right) {
            wrong++;
            System.out.println("README.md: " + what);
        }
    }

    /** A class that makes the example's calls and returns the calls whose answers are not as told. */
    private static String program(String example) {
        StringBuilder code = new StringBuilder("public final class Example { public static String wrong() {"
            + " StringBuilder wrong = new StringBuilder();\n");
        int answers = 0;
        for (String line : example.split("\n")) {
            Matcher told = ANSWER.matcher(line);
            if (told.matches()) {
                answers++;
                code.append("{ long got = ").append(told.group(1)).append("; if (got != ").append(told.group(2))
                    .append(") wrong.append(\"line ").append(answers).append(" answered \").append(got).append('\\n'); }\n");
            } else {
                code.append(line).append('\n');
            }
        }
        check(answers == ANSWERS, answers + " answers are told, not " + ANSWERS);
        return code.append("return wrong.toString(); } }\n").toString();
    }

    private static boolean compiles(Path source, Path out) throws IOException, InterruptedException {
        return new ProcessBuilder("javac", "-encoding", "UTF-8", "-d", out.toString(),
            "-cp", System.getProperty("java.class.path"), source.toString()).inheritIO().start().waitFor() == 0;
    }

    private static void checkExample(String readme, Path out)
            throws IOException, InterruptedException, ReflectiveOperationException {
        Matcher found = EXAMPLE.matcher(readme);
        if (!found.find()) {
            check(false, "there is no example");
            return;
        }
        Path source = Files.writeString(out.resolve("Example.java"), program(found.group(1)));
        if (!compiles(source, out)) {
            check(false, "the example does not compile");
            return;
        }
        try (URLClassLoader loader = new URLClassLoader(new URL[] {out.toUri().toURL()})) {
            Object answer = loader.loadClass("Example").getMethod("wrong").invoke(null);
            check(answer.equals(""), "the example: " + answer);
        }
    }

    private static void checkCalls(String readme) {
        for (Method m : CapWallets.class.getDeclaredMethods()) {
            if (Modifier.isPublic(m.getModifiers())) {
                Matcher row = Pattern.compile("\\| `" + m.getName() + "\\(([^)]*)\\)` \\|[^|\n]*\\|([^|\n]*)\\|\n").matcher(readme);
                check(row.find(), m.getName() + " is not told");
                if (row.reset().find()) {
                    int told = row.group(1).isEmpty() ? 0 : row.group(1).split(",").length;
                    check(told == m.getParameterCount(), m.getName() + " is told with " + told + " arguments");
                    check(row.group(2).trim().matches(thrown(m)), m.getName() + " is told to throw " + row.group(2));
                }
            }
        }
    }

    private static String thrown(Method m) {
        StringBuilder pattern = new StringBuilder();
        for (Class<?> e : m.getExceptionTypes()) {
            pattern.append(pattern.length() == 0 ? "" : "; ").append(e.getSimpleName().replace("Exception", "")).append("(: [^;]*)?");
        }
        return pattern.toString();
    }

    private static void checkSettings(String readme) {
        Matcher row = Pattern.compile("\\| (\\d) \\|[^|\n]*\\| (\\d+) to (\\d+) \\| (\\d+) \\|\n").matcher(readme);
        int setting = 0;
        while (row.find()) {
            CapWallets x = new CapWallets();
            check(Integer.parseInt(row.group(1)) == setting, "setting " + setting + " is told as " + row.group(1));
            int least = Integer.parseInt(row.group(2));
            int most = Integer.parseInt(row.group(3));
            check(x.set(setting, least) == Integer.parseInt(row.group(4)), "setting " + setting + " at first");
            check(x.set(setting, most) == least, "the most of setting " + setting);
            check(refuses(x, setting, least - 1) && refuses(x, setting, most + 1), "the ends of setting " + setting);
            setting++;
        }
        check(setting == 6, setting + " settings are told");
    }

    private static boolean refuses(CapWallets x, int setting, int value) {
        try {
            x.set(setting, value);
            return false;
        } catch (IllegalArgumentException e) {
            return true;
        }
    }

    private static void checkTests(String readme) throws IOException {
        try (Stream<Path> tests = Files.list(Path.of("src/test/java"))) {
            tests.map(t -> t.getFileName().toString().replace(".java", ""))
                .forEach(t -> check(readme.contains("- `" + t + "`: "), "the test " + t + " is not told"));
        }
    }

    private static void delete(Path folder) throws IOException {
        try (Stream<Path> all = Files.walk(folder)) {
            for (Path p : all.sorted(Comparator.reverseOrder()).toList()) {
                Files.delete(p);
            }
        }
    }

    public static void main(String[] args) throws Exception {
        String readme = Files.readString(Path.of("README.md"));
        Path out = Files.createTempDirectory("readme");
        try {
            checkExample(readme, out);
        } finally {
            delete(out);
        }
        checkCalls(readme);
        checkSettings(readme);
        checkTests(readme);
        System.out.println(wrong == 0 ? "README.md is as the class" : wrong + " things of README.md do not hold");
        if (wrong != 0) {
            System.exit(1);
        }
    }
}
