import java.io.IOException;
import java.net.URL;
import java.net.URLClassLoader;
import java.nio.file.Files;
import java.nio.file.Path;
import java.util.ArrayList;
import java.util.List;
import java.util.regex.Matcher;
import java.util.regex.Pattern;

/** README.md's examples: each call in them answers, or throws, what its comment says first. */
final class ReadmeTest {
    private static final Pattern EXAMPLE = Pattern.compile("(?s)```java\n(.*?)```");
    private static final Pattern ANSWER = Pattern.compile(
            "(?m)^(m\\.\\w+\\([^;]*\\)); +// (?:(-?\\d+|true|false)(?=[:,]|$)|throws (\\w+)).*$");
    private static final String HEAD = """
            public final class Examples {
                private static String answer(java.util.concurrent.Callable<Object> call) {
                    try {
                        return String.valueOf(call.call());
                    } catch (Exception e) {
                        return e.getClass().getSimpleName();
                    }
                }
                public static void tell(java.util.List<String[]> rows) {
            """;

    public static void main(String[] args) throws IOException, InterruptedException, ReflectiveOperationException {
        Path built = Files.createTempDirectory("readme");
        try {
            List<String[]> rows = told(built, source(Files.readString(Path.of("README.md"))));
            for (String[] row : rows) {
                Check.same(row[0], row[1], row[2]);
            }
            Check.yes("answers", rows.size() > 40);
        } finally {
            for (String name : new String[] {"Examples.java", "Examples.class", ""}) {
                Files.deleteIfExists(built.resolve(name));
            }
        }
        Check.end();
    }

    /** A class that makes all the calls, in a block for each example. */
    private static String source(String readme) {
        StringBuilder text = new StringBuilder(HEAD);
        Matcher example = EXAMPLE.matcher(readme);
        while (example.find()) {
            text.append("{\n").append(recorded(example.group(1))).append("}\n");
        }
        return text.append("}\n}\n").toString();
    }

    /** The example, each call with an answer behind it replaced by one that is recorded with both. */
    private static String recorded(String example) {
        return ANSWER.matcher(example).replaceAll(line -> {
            String due = line.group(2) != null ? line.group(2) : line.group(3);
            return Matcher.quoteReplacement("rows.add(new String[] {\"" + line.group(1) + "\", answer(() -> "
                    + line.group(1) + "), \"" + due + "\"});");
        });
    }

    private static List<String[]> told(Path built, String source)
            throws IOException, InterruptedException, ReflectiveOperationException {
        Path file = Files.writeString(built.resolve("Examples.java"), source);
        Process javac = new ProcessBuilder("javac", "--release", "17", "-cp", System.getProperty("java.class.path"),
                "-d", built.toString(), file.toString()).inheritIO().start();
        Check.same("the examples are compiled", javac.waitFor(), 0);
        List<String[]> rows = new ArrayList<>();
        try (URLClassLoader loader = new URLClassLoader(new URL[] {built.toUri().toURL()}, ReadmeTest.class.getClassLoader())) {
            loader.loadClass("Examples").getMethod("tell", List.class).invoke(null, rows);
        }
        return rows;
    }
}
