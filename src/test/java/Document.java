import java.io.IOException;
import java.nio.charset.StandardCharsets;
import java.nio.file.Files;
import java.nio.file.Path;
import java.nio.file.Paths;
import java.util.LinkedHashMap;
import java.util.Map;

/** The words of ../shared/DOC.md by sections, blanks and line ends alike. */
final class Document {
    private static final Path FILE = Paths.get("../shared/DOC.md");
    private static Map<String, String> sections;

    private Document() {
    }

    /** 'Promise 1' to 'Promise 42' (without the call's head), 'Terms', 'What it is', .. */
    static Map<String, String> sections() {
        if (sections == null) {
            sections = split();
        }
        return sections;
    }

    static boolean says(String section, String words) {
        String all = sections().get(section);
        return all != null && !words.isEmpty() && all.contains(plain(words));
    }

    static String plain(String words) {
        return words.replaceAll("\\s+", " ").trim();
    }

    private static Map<String, String> split() {
        Map<String, String> found = new LinkedHashMap<>();
        for (String part : read().split("(?m)^## ")) {
            int line = part.indexOf('\n');
            String head = line < 0 ? part : part.substring(0, line);
            String body = line < 0 ? "" : part.substring(line + 1);
            if (head.startsWith("Promise ")) {
                head = head.replaceAll(":.*", "");
                body = body.replaceFirst("(?s)^\\s*`[^`]*`:", "");
            }
            found.put(head.trim(), plain(body));
        }
        return found;
    }

    private static String read() {
        try {
            return new String(Files.readAllBytes(FILE), StandardCharsets.UTF_8);
        } catch (IOException e) {
            throw new IllegalStateException("no document at " + FILE.toAbsolutePath(), e);
        }
    }
}
