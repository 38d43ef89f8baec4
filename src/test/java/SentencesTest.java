import java.io.IOException;
import java.nio.charset.StandardCharsets;
import java.nio.file.Files;
import java.nio.file.Path;
import java.nio.file.Paths;
import java.util.ArrayList;
import java.util.List;
import java.util.Map;
import java.util.regex.Matcher;
import java.util.regex.Pattern;
import java.util.stream.Collectors;
import java.util.stream.Stream;

/** That the tests name each sentence of 'Terms' and of the promises 1 to 42: no word of them is left out. */
public final class SentencesTest {
    private static final Pattern SAYS = Pattern.compile(
        "Due\\.says\\(\"([^\"]+)\",\\s*((?:\"(?:[^\"\\\\]|\\\\.)*\"[\\s+]*)+)\\);");

    public static void main(String[] args) throws IOException {
        List<String[]> quotes = quotes();
        int promises = 0;
        for (Map.Entry<String, String> section : Document.sections().entrySet()) {
            String name = section.getKey();
            if (name.startsWith("Promise ") || name.equals("Terms")) {
                Due.is("words of '" + name + "' without a test", wordsLeft(name, section.getValue(), quotes), 0);
                promises += name.equals("Terms") ? 0 : 1;
            }
        }
        Due.is("promises", promises, 42);
        Due.finish();
    }

    private static List<String[]> quotes() throws IOException {
        List<Path> files;
        try (Stream<Path> all = Files.list(Paths.get("src/test/java"))) {
            files = all.filter(f -> f.toString().endsWith("Test.java")).collect(Collectors.toList());
        }
        List<String[]> quotes = new ArrayList<>();
        for (Path file : files) {
            Matcher m = SAYS.matcher(new String(Files.readAllBytes(file), StandardCharsets.UTF_8));
            while (m.find()) {
                String words = m.group(2).trim().replaceAll("\"\\s*\\+\\s*\"", "");
                quotes.add(new String[] {m.group(1), Document.plain(words.substring(1, words.length() - 1))});
            }
        }
        return quotes;
    }

    private static int wordsLeft(String name, String text, List<String[]> quotes) {
        // what the interface says ahead of its calls is no promise
        String body = text.replaceAll(" Ahead of the calls .*", "");
        boolean[] named = new boolean[body.length()];
        for (String[] quote : quotes) {
            int from = quote[0].equals(name) ? body.indexOf(quote[1]) : -1;
            while (from >= 0) {
                for (int i = from; i < from + quote[1].length(); i++) {
                    named[i] = true;
                }
                from = body.indexOf(quote[1], from + 1);
            }
        }
        int left = 0;
        Matcher word = Pattern.compile("[A-Za-z0-9]+").matcher(body);
        while (word.find()) {
            boolean isFence = word.group().equals("text") && body.startsWith("```text", Math.max(0, word.start() - 3));
            if (!named[word.start()] && !isFence) {
                System.out.println(name + ": no test names '" + word.group() + "' at " + word.start());
                left++;
            }
        }
        return left;
    }
}
