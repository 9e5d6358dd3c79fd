import java.io.IOException;
import java.lang.reflect.Method;
import java.lang.reflect.Modifier;
import java.net.URL;
import java.net.URLClassLoader;
import java.nio.file.Files;
import java.nio.file.Path;
import java.util.ArrayList;
import java.util.Comparator;
import java.util.List;
import java.util.regex.Matcher;
import java.util.regex.Pattern;
import java.util.stream.Stream;
import javax.tools.ToolProvider;

/** README.md: its example answers what is said beside it, and it names every call, with all its arguments. */
public final class ReadmeTest {
    /** A line of the example whose answer has a name and is said: int n = desk.call(); // 5 .. */
    private static final Pattern SAID = Pattern.compile("(?:int|long) (\\w+) = [^;]*; *// (-?\\d+).*");

    public static void main(String[] args) throws Exception {
        String text = Files.readString(Path.of("README.md"));
        example(text);
        calls(text);
        Check.end();
    }

    private static void example(String text) throws Exception {
        int begin = text.indexOf("```java\n") + 8;
        String example = text.substring(begin, text.indexOf("```", begin));
        List<String> names = new ArrayList<>();
        List<Long> due = new ArrayList<>();
        Matcher said = SAID.matcher(example);
        while (said.find()) {
            names.add(said.group(1));
            due.add(Long.parseLong(said.group(2)));
        }
        Path place = Files.createTempDirectory("readme");
        try {
            long[] got = answers(place, example, names);
            for (int k = 0; k < got.length; k++) {
                long answer = got[k];
                Check.about("README.md, " + names.get(k) + ": ");
                Check.is(due.get(k), () -> answer);
            }
            Check.about("");
            Check.is(4, () -> got.length);
        } finally {
            remove(place);
        }
    }

    /** Compiles the example in a class of its own and runs it. */
    private static long[] answers(Path place, String example, List<String> names) throws Exception {
        Path source = place.resolve("Example.java");
        Files.writeString(source, "public final class Example { public static long[] run() {\n" + example
                + "return new long[] {" + String.join(", ", names) + "}; } }\n");
        String classes = System.getProperty("java.class.path");
        int failed = ToolProvider.getSystemJavaCompiler().run(null, null, null,
                "-cp", classes, "-d", place.toString(), source.toString());
        if (failed != 0) {
            Check.tell("the example of README.md does not compile");
            return new long[0];
        }
        try (URLClassLoader loader = new URLClassLoader(new URL[] {place.toUri().toURL()})) {
            return (long[]) loader.loadClass("Example").getMethod("run").invoke(null);
        }
    }

    private static void remove(Path place) throws IOException {
        try (Stream<Path> files = Files.walk(place)) {
            for (Path file : files.sorted(Comparator.reverseOrder()).toList()) {
                Files.delete(file);
            }
        }
    }

    private static void calls(String text) {
        for (Method method : SegmentDesk.class.getDeclaredMethods()) {
            if (Modifier.isPublic(method.getModifiers())) {
                int n = method.getParameterCount();
                String given = n == 0 ? "" : "\\w+" + "(, \\w+)".repeat(n - 1);
                Check.seen();
                if (!Pattern.compile("`" + method.getName() + "\\(" + given + "\\)`").matcher(text).find()) {
                    Check.tell("README.md does not name " + method);
                }
            }
        }
    }
}
