import java.io.IOException;
import java.lang.reflect.Method;
import java.lang.reflect.Modifier;
import java.net.URL;
import java.net.URLClassLoader;
import java.nio.charset.StandardCharsets;
import java.nio.file.Files;
import java.nio.file.Path;
import java.nio.file.Paths;
import java.util.Comparator;
import java.util.List;
import java.util.regex.Matcher;
import java.util.regex.Pattern;
import java.util.stream.Collectors;
import java.util.stream.Stream;
import javax.tools.ToolProvider;

/** That what README.md shows compiles, answers as it says there, and shows each call of the class. */
public final class ReadmeTest {
    private static final Pattern BLOCK = Pattern.compile("(?ms)^```java\\n(.*?)^```$");
    private static final Pattern CALL = Pattern.compile("^((?:band\\.|tell\\().*?\\));(.*)$");
    private static final Pattern ANSWER = Pattern.compile("^ +// (-?\\d+|BAD|STATE|FULL|NONE)(?:[: ].*)?$");

    public static void main(String[] args) throws Exception {
        String page = new String(Files.readAllBytes(Paths.get("README.md")), StandardCharsets.UTF_8);
        StringBuilder helpers = new StringBuilder();
        StringBuilder lines = new StringBuilder();
        Matcher block = BLOCK.matcher(page);
        while (block.find()) {
            if (block.group(1).startsWith("static ")) {
                helpers.append(block.group(1));
            } else {
                lines.append(block.group(1));
            }
        }
        showsEachCall(helpers.toString() + lines);
        run(sourceOf(helpers.toString(), lines.toString()));
        namesWhatThereIs(page);
        Due.finish();
    }

    private static void showsEachCall(String shown) {
        for (Method m : TownBand.class.getDeclaredMethods()) {
            if (Modifier.isPublic(m.getModifiers())) {
                Due.isTrue("README.md shows " + m.getName() + "()", shown.contains("band." + m.getName() + "("));
            }
        }
    }

    /** Each call with its answer becomes a look at that answer; other lines stay as they are. */
    private static String sourceOf(String helpers, String lines) {
        StringBuilder body = new StringBuilder();
        for (String line : lines.split("\n")) {
            Matcher call = CALL.matcher(line);
            if (call.matches()) {
                Matcher answer = ANSWER.matcher(call.group(2));
                boolean isTold = answer.matches();
                Due.isTrue("README.md tells the answer of " + line, isTold);
                body.append("Due.is(\"README.md: ").append(line.replace("\\", "\\\\").replace("\"", "\\\""))
                    .append("\", ").append(call.group(1)).append(", ")
                    .append(isTold ? valueOf(answer.group(1)) : "0").append(");\n");
            } else {
                body.append(line).append('\n');
            }
        }
        return "final class Shown {\n" + helpers + "static void run() {\n" + body + "}\n}\n";
    }

    private static String valueOf(String answer) {
        return Character.isLetter(answer.charAt(0)) ? "TownBand." + answer : answer;
    }

    private static void run(String source) throws Exception {
        Path dir = Files.createTempDirectory("readme");
        try {
            Path file = dir.resolve("Shown.java");
            Files.write(file, source.getBytes(StandardCharsets.UTF_8));
            int exit = ToolProvider.getSystemJavaCompiler().run(null, null, null,
                "-cp", System.getProperty("java.class.path"), "-d", dir.toString(), file.toString());
            Due.is("what README.md shows compiles", exit, 0);
            if (exit == 0) {
                callRun(dir);
            }
        } finally {
            remove(dir);
        }
    }

    private static void callRun(Path dir) throws Exception {
        URL[] places = {dir.toUri().toURL()};
        try (URLClassLoader loader = new URLClassLoader(places, ReadmeTest.class.getClassLoader())) {
            Method run = loader.loadClass("Shown").getDeclaredMethod("run");
            run.setAccessible(true);
            run.invoke(null);
        }
    }

    private static void remove(Path dir) throws IOException {
        List<Path> all;
        try (Stream<Path> files = Files.walk(dir)) {
            all = files.sorted(Comparator.reverseOrder()).collect(Collectors.toList());
        }
        for (Path file : all) {
            Files.delete(file);
        }
    }

    /** The tests and files that the page names are there. */
    private static void namesWhatThereIs(String page) {
        Matcher test = Pattern.compile("`(\\w+Test)`").matcher(page);
        while (test.find()) {
            Due.isTrue("there is " + test.group(1), Files.exists(Paths.get("src/test/java", test.group(1) + ".java")));
        }
        Matcher file = Pattern.compile("(?:\\.\\./shared|src|\\.ci)/[\\w./]*\\w").matcher(page);
        while (file.find()) {
            Due.isTrue("there is " + file.group(), Files.exists(Paths.get(file.group())));
        }
    }
}
