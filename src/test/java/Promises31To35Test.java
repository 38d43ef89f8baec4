import java.math.BigInteger;

/** Promises 31 to 35 (who lay where, by a seed): each bound by the sentence that tells it. */
public final class Promises31To35Test {
    private static final String ASSES_AND_COCK = "ass 1 1;ass 1 1;ass 1 1;ass 1 1;cock 1 1;";

    public static void main(String[] args) throws Exception {
        Due.runAll(Promises31To35Test.class);
    }

    static void promise31_behindNBeds() {
        Due.says("Promise 31", "SEEN: behind n BEDS (1 to 5) all HURT was h (0 to 99): how many are.");
        TownBand x = new TownBand();
        Due.is("least n, least h", x.see(1, 0), 1);
        Due.is("most n, most h", x.see(5, 99), 2);
        Due.is("least n, most h", x.see(1, 99), 3);
        Due.is("most n, least h", x.see(5, 0), 4);
        Due.is("the same once more", x.see(5, 0), 5);
        Due.is("how many", x.count(0), 5);
        // what is SEEN need not fit what there is
        Due.is("more BEDS than there are", x.see(2, 1), 6);
        Due.is("none FITS", x.fits(0), 0);
    }

    static void promise31_badFull() {
        Due.says("Promise 31", "BAD; FULL.");
        TownBand x = Due.told(ASSES_AND_COCK);
        int[] badBeds = {0, 6, -1, Due.LEAST, Due.MOST};
        int[] badHurts = {-1, 100, 999, Due.LEAST, Due.MOST};
        for (int i = 0; i < 5; i++) {
            Due.is("see(" + badBeds[i] + ", 1)", x.see(badBeds[i], 1), Due.BAD);
            Due.is("see(1, " + badHurts[i] + ")", x.see(1, badHurts[i]), Due.BAD);
            Due.is("SEEN", x.count(0), 0);
        }
        for (int i = 1; i <= 6; i++) {
            Due.is("the " + i + ". one", x.see(1, 7), i);
        }
        Due.is("the 7th", x.see(1, 1), Due.FULL);
        Due.is("SEEN then", x.count(0), 6);
        Due.is("what is refused is not SEEN", x.fits(0), 96);
        x.forget(5);
        Due.is("room again", x.see(1, 7), 6);
        Due.is("full again", x.see(1, 7), Due.FULL);
    }

    static void promise32_theFirstNAlone() {
        Due.says("Promise 32", "SEEN are the first n alone: how many there were.");
        TownBand x = Due.told("ass 1 1;cat 1 1;cock 1 1;");
        Due.is("none of none", x.forget(0), 0);
        x.see(1, 7);
        x.see(2, 9);
        x.see(1, 2);
        Due.is("all", x.forget(3), 3);
        Due.is("all are there", x.fits(0), 0);
        Due.is("the first 2", x.forget(2), 3);
        Due.is("by these", x.fits(0), 1);
        Due.is("the first 1", x.forget(1), 2);
        Due.is("by it", x.fits(0), 2);
        Due.is("none", x.forget(0), 1);
        Due.is("by none", x.fits(0), 6);
        for (int i = 0; i < 6; i++) {
            x.see(1, 1);
        }
        Due.is("none of six", x.forget(0), 6);
        Due.is("none then", x.count(0), 0);
    }

    static void promise32_bad() {
        Due.says("Promise 32", "BAD.");
        TownBand x = Due.told("ass 1 1;cat 1 1;");
        Due.is("1 of none", x.forget(1), Due.BAD);
        x.see(1, 7);
        x.see(2, 9);
        int[] bad = {-1, 3, 6, Due.LEAST, Due.MOST};
        for (int n : bad) {
            Due.is("forget(" + n + ")", x.forget(n), Due.BAD);
            Due.is("SEEN", x.count(0), 2);
        }
        for (int i = 0; i < 4; i++) {
            x.see(1, 7);
        }
        Due.is("7 of six", x.forget(7), Due.BAD);
        Due.is("6 of six", x.forget(6), 6);
    }

    static void promise33_howMany() {
        Due.says("Promise 33", "ORDERS that FIT: how many (what 0);");
        int[] all = {1, 1, 2, 6, 24, 120};
        for (int beasts = 0; beasts <= 5; beasts++) {
            TownBand x = Due.told("cat 1 1;".repeat(beasts));
            Due.is("all of " + beasts, x.fits(0), all[beasts]);
        }
        TownBand x = Due.told(ASSES_AND_COCK);
        x.see(4, 28);
        Due.is("the cock is last", x.fits(0), 24);
        x.see(5, 29);
        Due.is("nothing new", x.fits(0), 24);
        x.see(4, 22);
        Due.is("none", x.fits(0), 0);
    }

    static void promise33_whoLiesThere() {
        Due.says("Promise 33", "10 and i: BEASTS that lie in BED i by some (bits),");
        TownBand x = Due.told(ASSES_AND_COCK);
        for (int i = 0; i < 5; i++) {
            Due.is("all", x.fits(10 + i), 31);
        }
        x.see(1, 1);
        Due.is("the cock", x.fits(10), 16);
        Due.is("the asses", x.fits(11), 15);
        Due.is("the asses in the last BED", x.fits(14), 15);
        x.see(1, 7);
        for (int i = 0; i < 5; i++) {
            Due.is("none FITS: nobody", x.fits(10 + i), 0);
        }
        Due.is("of one", Due.told("cat 1 1;").fits(10), 1);
    }

    static void promise33_byTheFirst() {
        Due.says("Promise 33", "20 and i: the BEAST in BED i by the first (NONE: there are none).");
        TownBand x = Due.told(ASSES_AND_COCK + "beds 4 3 2 1 0;");
        int[] first = {0, 1, 4, 2, 3};
        for (int i = 0; i < 5; i++) {
            Due.is("by order", x.fits(20 + i), i);
        }
        // the cock lies in BED 2
        x.see(2, 14);
        x.see(3, 15);
        for (int i = 0; i < 5; i++) {
            Due.is("the first", x.fits(20 + i), first[i]);
        }
        x.see(3, 21);
        for (int i = 0; i < 5; i++) {
            Due.is("there are none", x.fits(20 + i), Due.NONE);
        }
        Due.is("BEDS stay", x.at(1, 0), 4);
    }

    static void promise33_bad() {
        Due.says("Promise 33", "BAD.");
        int[] bad = {-1, 1, 9, 15, 19, 25, 30, Due.LEAST, Due.MOST};
        for (int what : bad) {
            Due.is("fits(" + what + ")", Due.told(ASSES_AND_COCK).fits(what), Due.BAD);
        }
        for (int beasts = 0; beasts <= 5; beasts++) {
            TownBand x = Due.told("cat 1 1;".repeat(beasts));
            Due.is("no such BED", x.fits(10 + beasts), Due.BAD);
            Due.is("no such BED by the first", x.fits(20 + beasts), Due.BAD);
            if (beasts > 0) {
                Due.is("the last BED", x.fits(9 + beasts), (1 << beasts) - 1);
                Due.is("the last BED by the first", x.fits(19 + beasts), beasts - 1);
            }
        }
    }

    private static void ask(TownBand x, int behind, int left) {
        Due.is("ask(0)", x.ask(0), behind);
        Due.is("ask(1)", x.ask(1), left);
    }

    static void promise34_fewestAreLeft() {
        Due.says("Promise 34", "Behind how many BEDS to ask next how much all HURT was, so that of ORDERS that FIT "
            + "fewest are left at the worst, fewer than now, the first (what 0), how many these are (1).");
        // 1 of 2 behind the first BED; behind both BEDS 2 of 2, which are not fewer
        ask(Due.told("ass 1 1;cock 1 1;"), 1, 1);
        // of three that HURT each otherwise: 2 behind the first, 2 behind the second: the first
        ask(Due.told("ass 1 1;hound 1 1;cat 1 1;"), 1, 2);
        // behind 1: 96 by an ass, behind 2: 72, behind 3: 72
        TownBand x = Due.told(ASSES_AND_COCK);
        ask(x, 2, 72);
        x.see(3, 21);
        // the cock lies in BED 3 or 4: 24 each
        ask(x, 4, 24);
        x.see(4, 28);
        ask(x, Due.NONE, Due.NONE);
        // asses and cocks, two each: behind 1 12 of 24, behind 2 16 of 24 (an ass and a cock), behind 3 12
        ask(Due.told("ass 1 1;cock 1 1;ass 1 1;cock 1 1;"), 1, 12);
    }

    static void promise34_badNoneBehindNone() {
        Due.says("Promise 34", "BAD; NONE: behind none.");
        int[] bad = {-1, 2, Due.LEAST, Due.MOST};
        for (int what : bad) {
            Due.is("ask(" + what + ")", Due.told(ASSES_AND_COCK).ask(what), Due.BAD);
            Due.is("ask(" + what + ") of none", new TownBand().ask(what), Due.BAD);
        }
        ask(new TownBand(), Due.NONE, Due.NONE);
        ask(Due.told("cat 1 1;"), Due.NONE, Due.NONE);
        ask(Due.told("cat 1 1;cat 1 1;"), Due.NONE, Due.NONE);
        ask(Due.told("ass 1 1;ass 2 2;ass 3 3;ass 4 4;ass 5 5;"), Due.NONE, Due.NONE);
        TownBand x = Due.told("ass 1 1;cock 1 1;");
        x.see(1, 7);
        ask(x, Due.NONE, Due.NONE);
        x.see(1, 1);
        ask(x, Due.NONE, Due.NONE);
        TownBand more = Due.told("ass 1 1;cock 1 1;");
        more.see(3, 8);
        ask(more, Due.NONE, Due.NONE);
    }

    static void promise35_byItself() {
        Due.says("Promise 35", "By itself, n times (1 to 60) by a seed: the seed becomes seed times 1103515245 and "
            + "12345; bits 16 to 30 of it modulo BEASTS is one, then (once more) modulo 10 its VOICE: how many flee "
            + "by THE TOWER behind each, summed (what 0), its NOISE in the end (1).");
        int[] seeds = {0, 1, -1, 2, 12345, 1103515245, 65536, Due.LEAST, Due.MOST, Due.LEAST + 1, Due.MOST - 1};
        int[] times = {1, 2, 59, 60};
        for (int beasts = 1; beasts <= 5; beasts++) {
            String tower = " 0 1 2 3 4".substring(0, 2 * beasts);
            TownBand x = Due.told("ass 1 5;".repeat(beasts) + "robber 3;robber 9;robber 20;tower" + tower + ";");
            for (int seed : seeds) {
                for (int n : times) {
                    look(x, beasts, seed, n);
                }
            }
            Due.is("by itself: nothing is changed", x.noise(), 5 * beasts * (beasts + 1) / 2);
        }
        TownBand idle = Due.told("ass 1 9;ass 1 9;robber 0;");
        Due.is("nobody is in THE TOWER", idle.drift(1, 60, 0), 0);
        Due.is("nobody is in THE TOWER: NOISE", idle.drift(1, 60, 1), 0);
        Due.is("no ROBBERS", Due.told("ass 1 9;tower 0;").drift(1, 60, 0), 0);
        // by this seed five VOICES are never 0 all at once: all four flee each time
        Due.is("60 times", Due.told("ass 1 9;ass 1 9;ass 1 9;ass 1 9;ass 1 9;tower 0 1 2 3 4;robber 0;robber 0;"
            + "robber 0;robber 0;").drift(1, 60, 0), 240);
    }

    /** Told again by numbers without a bound, the seed held as bits 0 to 31. */
    private static void look(TownBand x, int beasts, int seed, int n) {
        BigInteger round = BigInteger.ONE.shiftLeft(32);
        BigInteger now = BigInteger.valueOf(seed).mod(round);
        int[] voices = {5, 5, 5, 5, 5};
        int[] courages = {3, 9, 20};
        int fled = 0;
        int noise = 0;
        for (int i = 0; i < n; i++) {
            now = now.multiply(BigInteger.valueOf(1103515245L)).add(BigInteger.valueOf(12345L)).mod(round);
            int one = now.shiftRight(16).intValue() % 32768 % beasts;
            now = now.multiply(BigInteger.valueOf(1103515245L)).add(BigInteger.valueOf(12345L)).mod(round);
            voices[one] = now.shiftRight(16).intValue() % 32768 % 10;
            noise = 0;
            for (int b = 0; b < beasts; b++) {
                noise += voices[b] * (b + 1);
            }
            int fright = noise;
            for (int courage : courages) {
                if (fright > courage) {
                    fright += 2;
                    fled++;
                }
            }
        }
        Due.is("drift(" + seed + ", " + n + ", 0) of " + beasts, x.drift(seed, n, 0), fled);
        Due.is("drift(" + seed + ", " + n + ", 1) of " + beasts, x.drift(seed, n, 1), noise);
    }

    static void promise35_badStateNoBeasts() {
        Due.says("Promise 35", "BAD; STATE: there are no BEASTS.");
        TownBand x = Due.told("cat 1 1;tower 0;robber 0;");
        int[] badTimes = {0, 61, -1, Due.LEAST, Due.MOST};
        int[] badWhats = {-1, 2, 10, Due.LEAST, Due.MOST};
        TownBand none = new TownBand();
        for (int i = 0; i < 5; i++) {
            Due.is("drift(1, " + badTimes[i] + ", 0)", x.drift(1, badTimes[i], 0), Due.BAD);
            Due.is("drift(1, 1, " + badWhats[i] + ")", x.drift(1, 1, badWhats[i]), Due.BAD);
            Due.is("BAD first: n", none.drift(1, badTimes[i], 0), Due.BAD);
            Due.is("BAD first: what", none.drift(1, 1, badWhats[i]), Due.BAD);
        }
        for (int what = 0; what < 2; what++) {
            Due.is("no BEASTS", none.drift(1, 1, what), Due.STATE);
            Due.is("no BEASTS, 60 times", none.drift(1, 60, what), Due.STATE);
            Due.is("ROBBERS alone", Due.told("robber 0;").drift(1, 1, what), Due.STATE);
        }
    }
}
