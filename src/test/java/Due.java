/** What the project's tests share: an answer beside the one that is due, and texts fed whole. */
final class Due {
    static final int BAD = -1, STATE = -2, FULL = -3, NONE = -4;
    private static int wrong = 0;
    private static int looked = 0;

    private Due() {
    }

    static void is(String call, long got, long want) {
        looked++;
        if (got != want) {
            wrong++;
            System.out.println(call + " answered " + got + ", due is " + want);
        }
    }

    static void isTrue(String what, boolean holds) {
        is(what, holds ? 1 : 0, 1);
    }

    static void finish() {
        System.out.println(looked + " answers, " + wrong + " not as due");
        if (wrong != 0 || looked == 0) {
            System.exit(1);
        }
    }

    static void feed(TownBand x, String text) {
        for (int i = 0; i < text.length(); i++) {
            x.feed(text.charAt(i));
        }
    }

    static TownBand told(String text) {
        TownBand x = new TownBand();
        feed(x, text);
        int answer = x.text();
        isTrue("text taken: " + text, answer >= 0);
        return x;
    }
}
