import java.io.IOException;
import java.nio.file.Files;
import java.nio.file.Paths;
import java.util.regex.Matcher;
import java.util.regex.Pattern;

/** The rules of LANGUAGE.md that can be seen in the words of the source. */
public final class LanguageTest {
    private static final String[] RULED_OUT = {
        "\\b(throw|throws|try|catch|synchronized|assert|finally)\\b", "->", "::", "\\bimport\\b", "\\bpackage\\b",
        "\\bprotected\\b", "\\bSystem\\.(?!arraycopy)", "\\bThread\\b", "\\bRandom\\b", "\\bObject\\b",
        "\\bException\\b", "\\w+Exact\\b", "\\bhashCode\\b", "\\btoString\\b", "\\bvolatile\\b", "\\btransient\\b",
        "static\\s*\\{", "\\bclass\\b(?<!private static final class)(?<!public final class)"};

    public static void main(String[] args) throws IOException {
        String source = new String(Files.readAllBytes(Paths.get("src/main/java/TownBand.java")), "UTF-8");
        Due.isTrue("plain signs alone", source.matches("(?s)[\\n\\x20-\\x7e]*"));
        String code = source.replaceAll("(?s)/\\*.*?\\*/", "").replaceAll("//[^\\n]*", "");
        for (String rule : RULED_OUT) {
            Matcher m = Pattern.compile(rule).matcher(code);
            Due.isTrue("ruled out: " + rule, !m.find());
        }
        methods(code);
        Due.finish();
    }

    /** No method of more than sixty lines, nor of more than seven parameters. */
    private static void methods(String code) {
        String[] lines = code.split("\n");
        Pattern head = Pattern.compile("^( +)(?:public|private) [^=;]*\\(([^)]*)\\) \\{$");
        for (int i = 0; i < lines.length; i++) {
            Matcher m = head.matcher(lines[i]);
            if (m.find()) {
                int last = i;
                while (last < lines.length - 1 && !lines[last].equals(m.group(1) + "}")) {
                    last++;
                }
                Due.isTrue("short: " + lines[i], last - i < 60);
                Due.isTrue("few parameters: " + lines[i], m.group(2).split(",").length <= 7);
            }
        }
    }
}
