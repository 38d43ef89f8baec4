import java.util.ArrayList;
import java.util.List;
import java.util.function.ToLongFunction;

/**
 * 'What is refused changes nothing': each refused call is made on one of two objects that are alike, and all that
 * can be asked of both is alike behind it. The same holds of calls that only ask.
 */
public final class RefusedTest {
    private static final int PARTS = 6;

    public static void main(String[] args) throws Exception {
        Due.runAll(RefusedTest.class);
    }

    // ---- objects that are alike

    private interface Maker {
        TownBand make();
    }

    /** All is there: five BEASTS, four ROBBERS, IMAGES, SHEETS, SEEN, a tape of 9 bytes, a fault() and a torn(). */
    private static TownBand rich() {
        TownBand x = new TownBand();
        Due.feed(x, "ass 9 4;hound 6 6;cat 3 7;cock 2 9;cat 9 0;robber 20;robber 44;robber 70;robber 9;scout 6;"
            + "tower 0 1;beds 3 1 4 0 2;");
        x.text();
        x.keep(0);
        x.climb(2);
        x.steel(0, 21);
        x.swap(0, 1);
        x.scout(7);
        x.keep(1);
        x.climb(3);
        x.alter(4, 2, 3);
        x.steel(3, 8);
        x.swap(2, 3);
        x.scout(8);
        x.see(2, 5);
        x.see(1, 1);
        x.sheet(0, 0, 3);
        x.lay(0, 0, 1);
        x.lay(0, 1, 2);
        x.lay(0, 2, 9);
        x.sheet(1, 1, 2);
        x.lay(1, 0, 4);
        x.sheet(2, 2, 40);
        x.lay(2, 0, 4);
        x.lay(2, 39, 3);
        x.read(2, 2, 40, 1);
        Due.feed(x, "cat 0");
        x.text();
        Due.feed(x, "robber 5;");
        return x;
    }

    /** As rich(), but no more bytes and no more SEEN are taken. */
    private static TownBand full() {
        TownBand x = new TownBand();
        Due.feed(x, "cat 1 1;ass 1 1;robber 99;");
        x.text();
        for (int i = 0; i < 6; i++) {
            x.see(1, i < 5 ? 2 : 7);
        }
        Due.feed(x, " ".repeat(150) + "robber 12;");
        return x;
    }

    /** Nothing is there, but a fault() and a torn(). */
    private static TownBand bare() {
        TownBand x = new TownBand();
        x.feed('!');
        x.text();
        x.read(0, 0, 0, 1);
        return x;
    }

    // ---- all that can be asked

    private static List<Long> ask(TownBand x, int part) {
        List<Long> told = new ArrayList<>();
        switch (part) {
            case 0:
                whatThereIs(x, told);
                break;
            case 1:
                whatIsSeen(x, told);
                break;
            case 2:
                told.add((long) x.back(0));
                whatThereIs(x, told);
                break;
            case 3:
                told.add((long) x.back(1));
                whatThereIs(x, told);
                break;
            case 4:
                whatIsOnSheets(x, told);
                break;
            default:
                told.add((long) x.text());
                whatThereIs(x, told);
        }
        return told;
    }

    private static void whatThereIs(TownBand x, List<Long> told) {
        for (int what = 0; what < 6; what++) {
            told.add((long) x.rule(what));
            told.add((long) x.count(what));
        }
        for (int b = 0; b < 5; b++) {
            for (int what = 0; what < 7; what++) {
                told.add((long) x.beast(b, what));
            }
            told.add((long) x.robber(b));
            told.add((long) x.at(0, b));
            told.add((long) x.at(1, b));
        }
        told.add((long) x.fault());
        told.add((long) x.torn());
        told.add((long) x.noise());
        told.add((long) x.flight(0));
        told.add((long) x.free());
        told.add((long) x.tale(0));
    }

    private static void whatIsSeen(TownBand x, List<Long> told) {
        for (int left = x.count(0); left >= 0; left--) {
            x.forget(left);
            for (int what = 0; what < 25; what++) {
                told.add((long) x.fits(what));
            }
        }
    }

    private static void whatIsOnSheets(TownBand x, List<Long> told) {
        int[] places = {0, 1, 2, 39};
        for (int k = 0; k < 4; k++) {
            for (int lane = 0; lane < 3; lane++) {
                for (int f : places) {
                    x.down(0);
                    told.add((long) x.read(k, lane, f, 1));
                    told.add((long) x.rule(4));
                    told.add((long) x.torn());
                }
            }
        }
    }

    // ---- one call on one of two

    private static void same(String call, Maker maker, ToLongFunction<TownBand> made) {
        for (int part = 0; part < PARTS; part++) {
            TownBand x = maker.make();
            TownBand y = maker.make();
            made.applyAsLong(x);
            List<Long> got = ask(x, part);
            List<Long> want = ask(y, part);
            Due.isTrue(call + " changes nothing (part " + part + "): " + got + ", due is " + want, got.equals(want));
        }
    }

    private static void refused(String call, Maker maker, long want, ToLongFunction<TownBand> made) {
        Due.is(call, made.applyAsLong(maker.make()), want);
        same(call, maker, made);
    }

    private static void bad(String call, ToLongFunction<TownBand> made) {
        refused(call, RefusedTest::rich, Due.BAD, made);
        refused(call + " of nothing", RefusedTest::bare, Due.BAD, made);
    }

    private static void quote() {
        Due.says("Terms", "what is refused changes nothing (but THE TAPE, as told).");
    }

    // ---- refused calls

    static void terms_refusedTape() {
        quote();
        bad("feed(-1)", x -> x.feed(-1));
        bad("feed(128)", x -> x.feed(128));
        bad("end(-1)", x -> x.end(-1));
        bad("end(10)", x -> x.end(10));
        refused("feed on a full tape", RefusedTest::full, Due.FULL, x -> x.feed('!'));
        refused("feed(128) on a full tape", RefusedTest::full, Due.BAD, x -> x.feed(128));
        refused("end(161)", RefusedTest::full, Due.BAD, x -> x.end(161));
    }

    static void terms_refusedText() {
        quote();
        // THE TAPE is empty then, and fault() tells: both objects have told a text, each with its FAULT
        String[] flaws = {"!", "cat", "cat 0", "beds;beds", "robber 1;robber 1;robber 1;robber 1;robber", "tower 0;",
            "cat 1 1;beds;", "cock 1 1;cock 2 1;robber 1;scout 1;tower 0 1;"};
        for (int fault = 1; fault <= 8; fault++) {
            String flaw = flaws[fault - 1];
            for (int part = 0; part < PARTS; part++) {
                TownBand x = rich();
                TownBand y = rich();
                x.end(0);
                y.end(0);
                Due.feed(x, flaw);
                Due.isTrue("refused: " + flaw, x.text() <= -10);
                Due.is("fault of " + flaw, x.fault(), fault);
                Due.is("bytes behind " + flaw, x.count(2), 0);
                // fault() alone tells them apart: it is made alike by a text that is refused, too
                x.feed('!');
                x.text();
                y.feed('!');
                y.text();
                Due.isTrue(flaw + " changes nothing (part " + part + ")", ask(x, part).equals(ask(y, part)));
            }
        }
    }

    static void terms_refusedQuestions() {
        quote();
        int[] whats = {-1, 9, 15, 25, Due.LEAST, Due.MOST};
        for (int what : whats) {
            bad("rule(" + what + ")", x -> x.rule(what));
            bad("beast(0, " + what + ")", x -> x.beast(0, what));
            bad("beast(" + what + ", 0)", x -> x.beast(what, 0));
            bad("robber(" + what + ")", x -> x.robber(what));
            bad("at(0, " + what + ")", x -> x.at(0, what));
            bad("at(1, " + what + ")", x -> x.at(1, what));
            bad("at(" + what + ", 0)", x -> x.at(what, 0));
            bad("flight(" + what + ")", x -> x.flight(what));
            bad("best(" + what + ")", x -> x.best(what));
            bad("few(" + what + ")", x -> x.few(what));
            bad("loud(" + what + ")", x -> x.loud(what));
            bad("tale(" + what + ")", x -> x.tale(what));
            bad("beds(" + what + ")", x -> x.beds(what));
            bad("share(" + what + ", 0)", x -> x.share(what, 0));
            bad("share(0, " + what + ")", x -> x.share(0, what));
            bad("mean(5, " + what + ")", x -> x.mean(5, what));
            bad("luck(5, " + what + ")", x -> x.luck(5, what));
            bad("fits(" + what + ")", x -> x.fits(what));
            bad("ask(" + what + ")", x -> x.ask(what));
            bad("drift(1, 1, " + what + ")", x -> x.drift(1, 1, what));
            bad("count(" + what + ")", x -> x.count(what));
        }
        bad("value(-1)", x -> x.value(-1));
        bad("value(32)", x -> x.value(32));
        bad("mean(-1, 0)", x -> x.mean(-1, 0));
        bad("mean(11, 0)", x -> x.mean(11, 0));
        bad("luck(-1, 0)", x -> x.luck(-1, 0));
        bad("luck(11, 0)", x -> x.luck(11, 0));
        bad("drift(1, 0, 0)", x -> x.drift(1, 0, 0));
        bad("drift(1, 61, 0)", x -> x.drift(1, 61, 0));
        refused("drift of no BEASTS", RefusedTest::bare, Due.STATE, x -> x.drift(1, 60, 0));
        refused("few by none", RefusedTest::full, Due.NONE, x -> x.few(0));
        refused("fits by none", RefusedTest::full, Due.NONE, x -> x.fits(20));
        refused("ask behind none", RefusedTest::full, Due.NONE, x -> x.ask(0));
    }

    static void terms_refusedChanges() {
        quote();
        int[][] alters = {{-1, 1, 1}, {5, 1, 1}, {0, -1, 1}, {0, 3, 1}, {0, 0, -1}, {0, 0, 4}, {0, 1, 0}, {0, 1, 10},
            {0, 2, -1}, {0, 2, 10}};
        for (int[] a : alters) {
            bad("alter(" + a[0] + ", " + a[1] + ", " + a[2] + ")", x -> x.alter(a[0], a[1], a[2]));
        }
        // 11 weigh upon the ass (of 3 it bears just so, of 2 it bears 9), 2 upon the cat, which bears 4
        refused("the ass as a cock", RefusedTest::rich, Due.STATE, x -> x.alter(0, 0, 0));
        refused("the ass as a cat", RefusedTest::rich, Due.STATE, x -> x.alter(0, 0, 1));
        refused("the ass of 2", RefusedTest::rich, Due.STATE, x -> x.alter(0, 1, 2));
        refused("the cock of 5", RefusedTest::rich, Due.STATE, x -> x.alter(3, 1, 5));
        bad("steel(-1, 1)", x -> x.steel(-1, 1));
        bad("steel(4, 1)", x -> x.steel(4, 1));
        bad("steel(0, -1)", x -> x.steel(0, -1));
        bad("steel(0, 100)", x -> x.steel(0, 100));
        bad("scout(-1)", x -> x.scout(-1));
        bad("scout(41)", x -> x.scout(41));
        bad("climb(-1)", x -> x.climb(-1));
        bad("climb(5)", x -> x.climb(5));
        refused("it is in it", RefusedTest::rich, Due.STATE, x -> x.climb(0));
        refused("it would not STAND", RefusedTest::rich, Due.STATE, x -> x.climb(4));
        bad("down(-1)", x -> x.down(-1));
        bad("down(5)", x -> x.down(5));
        int[][] swaps = {{0, 0}, {4, 4}, {-1, 0}, {0, -1}, {5, 0}, {0, 5}};
        for (int[] s : swaps) {
            bad("swap(" + s[0] + ", " + s[1] + ")", x -> x.swap(s[0], s[1]));
        }
    }

    static void terms_refusedSeenAndImages() {
        quote();
        int[][] sees = {{0, 1}, {6, 1}, {1, -1}, {1, 100}};
        for (int[] s : sees) {
            bad("see(" + s[0] + ", " + s[1] + ")", x -> x.see(s[0], s[1]));
        }
        refused("see on six", RefusedTest::full, Due.FULL, x -> x.see(1, 7));
        bad("forget(-1)", x -> x.forget(-1));
        bad("forget(3)", x -> x.forget(3));
        refused("forget(7)", RefusedTest::full, Due.BAD, x -> x.forget(7));
        bad("keep(-1)", x -> x.keep(-1));
        bad("keep(2)", x -> x.keep(2));
        bad("back(-1)", x -> x.back(-1));
        bad("back(2)", x -> x.back(2));
        refused("back(0) of none", RefusedTest::full, Due.STATE, x -> x.back(0));
        refused("back(1) of none", RefusedTest::full, Due.STATE, x -> x.back(1));
    }

    static void terms_refusedSheets() {
        quote();
        int[][] sheets = {{-1, 0, 1}, {4, 0, 1}, {0, -1, 1}, {0, 3, 1}, {0, 0, 41}, {4, 0, -1}, {0, 3, -1}};
        for (int[] s : sheets) {
            bad("sheet(" + s[0] + ", " + s[1] + ", " + s[2] + ")", x -> x.sheet(s[0], s[1], s[2]));
        }
        for (int k = 0; k < 4; k++) {
            int of = k;
            refused("a size below 0", RefusedTest::rich, -14, x -> x.sheet(of, 2, -1));
        }
        bad("lay(-1, 0, 1)", x -> x.lay(-1, 0, 1));
        bad("lay(4, 0, 1)", x -> x.lay(4, 0, 1));
        refused("lay: NULL", RefusedTest::rich, -11, x -> x.lay(3, 0, 1));
        refused("lay: INDEX below", RefusedTest::rich, -12, x -> x.lay(0, -1, 1));
        refused("lay: INDEX above", RefusedTest::rich, -12, x -> x.lay(0, 3, 1));
        int[][] reads = {{-1, 0, 0, 1}, {4, 0, 0, 1}, {0, -1, 0, 1}, {0, 3, 0, 1}, {0, 0, 0, -1}, {0, 0, 0, 21}};
        for (int[] r : reads) {
            bad("read(" + r[0] + ", " + r[1] + ", " + r[2] + ", " + r[3] + ")",
                x -> x.read(r[0], r[1], r[2], r[3]));
        }
        // torn() is INDEX ahead of it, and stays
        refused("read: it is in it", RefusedTest::rich, -20, x -> x.read(0, 0, 0, 3));
        refused("read: it would not STAND", RefusedTest::rich, -20, x -> x.read(1, 1, 0, 1));
        refused("read: there is no such BEAST", RefusedTest::rich, -20, x -> x.read(0, 0, 2, 1));
        refused("read: those ahead go down again", RefusedTest::low, -22, x -> x.read(0, 0, 0, 3));
    }

    /** As rich(), but the ass alone is in THE TOWER, so that two of SHEET 0 can climb. */
    private static TownBand low() {
        TownBand x = rich();
        x.down(1);
        return x;
    }

    // ---- what only asks

    static void all_whatOnlyAsksChangesNothing() {
        Due.says("Not promised", "Nothing is promised beyond the answers and state changes described above,");
        Maker[] makers = {RefusedTest::rich, RefusedTest::full, RefusedTest::bare, RefusedTest::low};
        for (Maker maker : makers) {
            for (int what = 0; what < 25; what++) {
                int n = what;
                same("best", maker, x -> x.best(n) + x.few(n) + x.loud(n));
                same("fits", maker, x -> x.fits(n) + x.ask(n) + x.beds(n));
                same("tale", maker, x -> x.tale(n) + x.value(n) + x.flight(n));
                same("mean", maker, x -> x.mean(n, 0) + x.luck(n, 1) + x.share(n, 0));
                same("drift", maker, x -> x.drift(n, 60, 0) + x.drift(-n, n, 1));
                same("count", maker, x -> x.count(n) + x.rule(n) + x.beast(n, n) + x.robber(n) + x.at(0, n));
            }
            same("noise", maker, x -> x.noise() + x.free() + x.need() + x.towers() + x.brave());
            same("fault", maker, x -> x.fault() + x.torn());
        }
    }
}
