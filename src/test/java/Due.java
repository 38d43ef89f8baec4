import java.lang.reflect.InvocationTargetException;
import java.lang.reflect.Method;
import java.util.Arrays;
import java.util.Comparator;

/** What the project's tests share: an answer beside the one that is due, sentences, and texts fed whole. */
public final class Due {
    static final int BAD = -1, STATE = -2, FULL = -3, NONE = -4;
    static final int LEAST = Integer.MIN_VALUE, MOST = Integer.MAX_VALUE;
    private static int wrong = 0;
    private static int looked = 0;
    private static String about = "";

    private Due() {
    }

    public static void is(String call, long got, long want) {
        looked++;
        if (got != want) {
            wrong++;
            System.out.println(about + call + " answered " + got + ", due is " + want);
        }
    }

    static void isTrue(String what, boolean holds) {
        is(what, holds ? 1 : 0, 1);
    }

    static void finish() {
        System.out.println(looked + " answers, " + wrong + " not as due");
        if (wrong != 0 || looked == 0) {
            System.exit(1);
        }
    }

    /** Which sentence of the document the next answers hold, in its own words. */
    static void says(String section, String words) {
        about = section + " ('" + words + "'): ";
        isTrue("the document says so", Document.says(section, words));
    }

    /** Runs each test of a class: its static methods without arguments whose name tells a section first. */
    static void runAll(Class<?> tests) throws IllegalAccessException, InvocationTargetException {
        Method[] all = tests.getDeclaredMethods();
        Arrays.sort(all, Comparator.comparing(Method::getName));
        for (Method test : all) {
            if (test.getParameterCount() == 0 && test.getName().matches("(promise\\d+|terms|all)_.*")) {
                about = "";
                test.invoke(null);
                isTrue(test.getName() + " names its sentence", !about.isEmpty());
            }
        }
        about = "";
        finish();
    }

    static void feed(TownBand x, String text) {
        for (int i = 0; i < text.length(); i++) {
            x.feed(text.charAt(i));
        }
    }

    static TownBand told(String text) {
        TownBand x = new TownBand();
        feed(x, text);
        int answer = x.text();
        isTrue("text taken: " + text, answer >= 0);
        return x;
    }

    /** A text that is taken by a new object, of so many lines. */
    static void taken(String text, int lines) {
        TownBand x = new TownBand();
        feed(x, text);
        is("text of '" + text + "'", x.text(), lines);
        is("fault of '" + text + "'", x.fault(), 0);
    }

    /** A text that has a FAULT at a place, in a new object, which stays new. */
    static void flaw(String text, int place, int fault) {
        TownBand x = new TownBand();
        feed(x, text);
        is("text of '" + text + "'", x.text(), -10 - place);
        is("fault of '" + text + "'", x.fault(), fault);
        is("beasts by '" + text + "'", x.rule(0), 0);
        is("robbers by '" + text + "'", x.rule(1), 0);
        is("scout by '" + text + "'", x.rule(3), 5);
        is("tape behind '" + text + "'", x.count(2), 0);
    }
}
