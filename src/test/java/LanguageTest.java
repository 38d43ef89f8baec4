import java.io.IOException;
import java.nio.file.Files;
import java.nio.file.Paths;
import java.util.Map;
import java.util.Set;
import java.util.TreeMap;
import java.util.TreeSet;
import java.util.regex.Matcher;
import java.util.regex.Pattern;

/** The rules of LANGUAGE.md that can be seen in the words of the source. */
public final class LanguageTest {
    private static final String[] RULED_OUT = {
        "\\b(throw|throws|try|catch|synchronized|assert|finally)\\b", "->", "::", "\\bimport\\b", "\\bpackage\\b",
        "\\bprotected\\b", "\\bSystem\\.(?!arraycopy)", "\\bThread\\b", "\\bRandom\\b", "\\bObject\\b",
        "\\bException\\b", "\\w+Exact\\b", "\\bhashCode\\b", "\\btoString\\b", "\\bvolatile\\b", "\\btransient\\b",
        "static\\s*\\{", "\\bclass\\b(?<!private static final class)(?<!public final class)"};

    public static void main(String[] args) throws IOException {
        String source = new String(Files.readAllBytes(Paths.get("src/main/java/TownBand.java")), "UTF-8");
        Due.isTrue("plain signs alone", source.matches("(?s)[\\n\\x20-\\x7e]*"));
        String code = source.replaceAll("(?s)/\\*.*?\\*/", "").replaceAll("//[^\\n]*", "");
        for (String rule : RULED_OUT) {
            Matcher m = Pattern.compile(rule).matcher(code);
            Due.isTrue("ruled out: " + rule, !m.find());
        }
        methods(code);
        classes(code);
        Map<String, Set<String>> calls = calls(code);
        for (String name : calls.keySet()) {
            Due.isTrue(name + "() goes at most eight deep", depth(calls, name, new TreeSet<>()) <= 8);
        }
        Due.finish();
    }

    /** At most twelve classes, each of at most twenty fields beside its constants. */
    private static void classes(String code) {
        String[] parts = code.split("\\bclass\\b");
        Due.isTrue("few classes", parts.length - 1 <= 12);
        for (int i = 1; i < parts.length; i++) {
            Matcher field = Pattern.compile("(?m)^ +private (?!static)[^(]*?( = .*)?;$").matcher(parts[i]);
            int fields = 0;
            while (field.find()) {
                fields++;
            }
            Due.isTrue("few fields:" + parts[i].substring(0, 20), fields <= 20);
        }
    }

    /** Which methods each method names; the names of all methods differ, so a name tells which one is meant. */
    private static Map<String, Set<String>> calls(String code) {
        Map<String, Set<String>> calls = new TreeMap<>();
        Matcher head = Pattern.compile("(?m)^( +)(?:public|private) [^=;\\n]*?(\\w+)\\([^)]*\\) \\{$").matcher(code);
        while (head.find()) {
            int end = code.indexOf("\n" + head.group(1) + "}", head.end());
            Set<String> named = new TreeSet<>();
            Matcher call = Pattern.compile("(\\w+)\\(").matcher(code.substring(head.end(), end));
            while (call.find()) {
                named.add(call.group(1));
            }
            Due.isTrue("one method alone bears the name " + head.group(2), calls.put(head.group(2), named) == null);
        }
        Due.isTrue("methods are found", calls.size() > 41);
        return calls;
    }

    /** How many calls stand open at once, at most; a method that calls itself counts once. */
    private static int depth(Map<String, Set<String>> calls, String name, Set<String> open) {
        int deepest = 0;
        open.add(name);
        for (String next : calls.get(name)) {
            if (calls.containsKey(next) && !open.contains(next)) {
                deepest = Math.max(deepest, depth(calls, next, open));
            }
        }
        open.remove(name);
        return deepest + 1;
    }

    /** No method of more than sixty lines, nor of more than seven parameters. */
    private static void methods(String code) {
        String[] lines = code.split("\n");
        Pattern head = Pattern.compile("^( +)(?:public|private) [^=;]*\\(([^)]*)\\) \\{$");
        for (int i = 0; i < lines.length; i++) {
            Matcher m = head.matcher(lines[i]);
            if (m.find()) {
                int last = i;
                while (last < lines.length - 1 && !lines[last].equals(m.group(1) + "}")) {
                    last++;
                }
                Due.isTrue("short: " + lines[i], last - i < 60);
                Due.isTrue("few parameters: " + lines[i], m.group(2).split(",").length <= 7);
            }
        }
    }
}
