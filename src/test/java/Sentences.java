import java.io.IOException;
import java.nio.file.Files;
import java.nio.file.Path;
import java.util.HashMap;
import java.util.LinkedHashMap;
import java.util.Map;

/**
 * The sentences of the document, each with a test of its own. A sentence that is quoted must stand in the document,
 * and in the end nothing of the Terms and the promises may be left that no test quotes.
 */
final class Sentences {
    private static final Path DOCUMENT = Path.of("../shared/DOC.md");
    private static final Map<String, String> TEXTS = new LinkedHashMap<>();
    private static final Map<String, boolean[]> QUOTED = new HashMap<>();
    private static String section = "";

    private Sentences() {
    }

    /** Without the document at hand the tests run all the same. */
    static void open() {
        if (!Files.exists(DOCUMENT)) {
            System.out.println("no " + DOCUMENT + ": quotes are not looked for");
            return;
        }
        try {
            readSections(Files.readString(DOCUMENT));
        } catch (IOException e) {
            Check.tell("the document can't be read: " + e);
        }
    }

    private static void readSections(String document) {
        for (String part : document.split("(?m)^## ")) {
            String heading = part.lines().findFirst().orElse("");
            String name = heading.startsWith("Promise") ? heading.substring(0, heading.indexOf(':')) : heading;
            if (name.equals("Terms") || name.startsWith("Promise")) {
                String text = part.substring(heading.length()).replaceAll("(?m)^```.*$", "");
                // A promise begins with the method's head, which FaceTest looks at.
                String said = name.equals("Terms") ? text : text.replaceFirst("`[^`]*`:", "");
                TEXTS.put(name, plain(said));
                QUOTED.put(name, new boolean[plain(said).length()]);
            }
        }
    }

    private static String plain(String text) {
        return text.replace("`", "").replaceAll("\\s+", " ").trim();
    }

    static void in(String name) {
        section = name;
    }

    static void holds(String quote, Check.Act test) {
        Check.about(section + ", \"" + quote + "\": ");
        mark(quote);
        int before = Check.looked();
        try {
            test.run();
        } catch (RuntimeException e) {
            Check.tell("its test threw " + e);
        }
        if (Check.looked() == before) {
            Check.tell("its test looks at nothing");
        }
        Check.about("");
    }

    private static void mark(String quote) {
        if (TEXTS.isEmpty()) {
            return;
        }
        String text = TEXTS.getOrDefault(section, "");
        int at = text.indexOf(plain(quote));
        while (at >= 0 && QUOTED.get(section)[at]) {
            at = text.indexOf(plain(quote), at + 1);
        }
        if (at < 0) {
            Check.tell("that is not in the document, or quoted twice");
            return;
        }
        for (int k = 0; k < plain(quote).length(); k++) {
            QUOTED.get(section)[at + k] = true;
        }
    }

    /** Tells what no test has quoted. */
    static void close() {
        for (Map.Entry<String, String> entry : TEXTS.entrySet()) {
            boolean[] quoted = QUOTED.get(entry.getKey());
            StringBuilder left = new StringBuilder();
            for (int k = 0; k < quoted.length; k++) {
                left.append(quoted[k] ? '\n' : entry.getValue().charAt(k));
            }
            for (String piece : left.toString().split("\n+")) {
                if (piece.matches(".*[A-Za-z0-9].*")) {
                    Check.tell(entry.getKey() + ": no test for \"" + piece.trim() + "\"");
                }
            }
        }
    }
}
