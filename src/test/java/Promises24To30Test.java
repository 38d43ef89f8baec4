/** Promises 24 to 30 (the scout, shares, hoarse ones): each bound by the sentence that tells it. */
public final class Promises24To30Test {
    private static final String ASSES = "ass 1 1;ass 1 1;ass 1 1;ass 1 1;ass 1 1;";

    public static void main(String[] args) throws Exception {
        Due.runAll(Promises24To30Test.class);
    }

    private static void tale(TownBand x, int hurt, int met) {
        Due.is("how much", x.tale(0), hurt);
        Due.is("how many BEDS", x.tale(1), met);
        Due.is("as he tells it", x.tale(2), 9 * hurt);
    }

    private static void fraction(String name, long over, long under, long wantOver, long wantUnder) {
        Due.is(name, over, wantOver);
        Due.is(name + " by", under, wantUnder);
    }

    static void promise24_howMuchHeIsHurt() {
        Due.says("Promise 24", "THE SCOUT: how much he is HURT (what 0), how many BEDS he meets (1), "
            + "nine times HURT, as he tells it (2).");
        tale(new TownBand(), 0, 0);
        tale(Due.told("cock 1 1;scout 0;"), 1, 1);
        tale(Due.told("ass 1 1;scout 40;"), 7, 1);
        TownBand x = Due.told(ASSES + "scout 0;");
        int[] scouts = {0, 6, 7, 13, 14, 20, 21, 27, 28, 40};
        int[] met = {1, 1, 2, 2, 3, 3, 4, 4, 5, 5};
        for (int i = 0; i < scouts.length; i++) {
            x.scout(scouts[i]);
            tale(x, 7 * met[i], met[i]);
        }
        tale(Due.told("ass 1 1;cock 1 1;beds 1 0;scout 0;"), 1, 1);
        tale(Due.told("ass 1 1;cock 1 1;beds 1 0;scout 1;"), 8, 2);
    }

    static void promise24_bad() {
        Due.says("Promise 24", "BAD.");
        int[] bad = {-1, 3, Due.LEAST, Due.MOST};
        for (int what : bad) {
            Due.is("tale(" + what + ")", Due.told(ASSES).tale(what), Due.BAD);
            Due.is("tale(" + what + ") of none", new TownBand().tale(what), Due.BAD);
        }
    }

    static void promise25_hurtMost() {
        Due.says("Promise 25", "The ORDER of all BEASTS in BEDS by which THE SCOUT is HURT most, of several "
            + "the first: how much (what 0); 10 and i: the BEAST in BED i.");
        Due.is("of none", new TownBand().beds(0), 0);
        beds(Due.told("cock 1 1;"), 1, 0);
        beds(Due.told(ASSES), 7, 0, 1, 2, 3, 4);
        beds(Due.told(ASSES + "scout 40;beds 4 3 2 1 0;"), 35, 0, 1, 2, 3, 4);
        // by 0 he meets one BED: the ass's
        beds(Due.told("cock 1 1;cat 1 1;ass 1 1;scout 0;"), 7, 2, 0, 1);
        // by 1 he meets two, if the cock is first
        beds(Due.told("cock 1 1;cat 1 1;ass 1 1;scout 1;"), 8, 0, 2, 1);
        // by 2 the cat may be first
        beds(Due.told("cock 1 1;cat 1 1;ass 1 1;scout 2;"), 9, 1, 2, 0);
        // by 3 both are met ahead of the ass: all
        beds(Due.told("cock 1 1;cat 1 1;ass 1 1;scout 3;"), 10, 0, 1, 2);
        TownBand x = Due.told("cock 1 1;ass 1 1;scout 40;");
        beds(x, 8, 0, 1);
        x.scout(0);
        beds(x, 7, 1, 0);
        Due.is("BEDS stay", x.at(1, 0), 0);
    }

    private static void beds(TownBand x, int hurt, int... row) {
        Due.is("beds(0)", x.beds(0), hurt);
        for (int i = 0; i < row.length; i++) {
            Due.is("beds(" + (10 + i) + ")", x.beds(10 + i), row[i]);
        }
        Due.is("behind the last BED", x.beds(10 + row.length), Due.BAD);
    }

    static void promise25_bad() {
        Due.says("Promise 25", "BAD.");
        int[] bad = {-1, 1, 9, 15, 20, Due.LEAST, Due.MOST};
        for (int what : bad) {
            Due.is("beds(" + what + ")", Due.told(ASSES).beds(what), Due.BAD);
        }
        Due.is("beds(14) of five", Due.told(ASSES).beds(14), 4);
        Due.is("beds(10) of none", new TownBand().beds(10), Due.BAD);
    }

    static void promise26_theLeastScout() {
        Due.says("Promise 26", "The least SCOUT (0 to 40) by which he meets all BEDS, as they are.");
        Due.is("of none", new TownBand().brave(), 0);
        Due.is("of one", Due.told("ass 1 1;").brave(), 0);
        Due.is("of two", Due.told("ass 1 1;cock 1 1;").brave(), 7);
        Due.is("of two, as they are", Due.told("ass 1 1;cock 1 1;beds 1 0;").brave(), 1);
        TownBand x = Due.told(ASSES + "scout 9;");
        Due.is("the most there can be", x.brave(), 28);
        Due.is("SCOUT stays", x.rule(3), 9);
    }

    static void promise26_noneByNone() {
        Due.says("Promise 26", "NONE: by none.");
        // 28 is the most, and 40 is there: so it's never NONE; all KINDS of five BEASTS are looked at
        for (int kinds = 0; kinds < 1024; kinds++) {
            TownBand x = Due.told(ASSES);
            for (int b = 0; b < 5; b++) {
                x.alter(b, 0, kinds >> 2 * b & 3);
            }
            int least = x.brave();
            x.scout(least);
            Due.is("he meets all", x.tale(1), 5);
            x.scout(least - 1);
            Due.is("not by less", x.tale(1), 4);
        }
    }

    static void promise27_ofSome() {
        Due.says("Promise 27", "VALUE of some BEASTS (bits).");
        TownBand x = Due.told(ASSES + "robber 0;robber 4;robber 9;robber 20;");
        Due.is("nobody", x.value(0), 0);
        Due.is("one", x.value(16), 1);
        // 3, and 2 for him who has fled
        Due.is("two", x.value(3), 2);
        // 6, and 4 for those
        Due.is("three", x.value(21), 3);
        Due.is("four", x.value(30), 3);
        // 15, and 6
        Due.is("all", x.value(31), 4);
        Due.is("of a new object", new TownBand().value(0), 0);
        Due.is("no ROBBERS", Due.told(ASSES).value(31), 0);
    }

    static void promise27_someOfThese() {
        Due.says("Promise 27", "VALUE of some BEASTS (bits).");
        // of three cocks of 1 two stand: the silent one is left out, or nobody flees
        for (int silent = 0; silent < 3; silent++) {
            TownBand x = Due.told("cock 1 9;cock 1 9;cock 1 9;robber 26;");
            x.alter(silent, 2, 0);
            for (int some = 0; some < 8; some++) {
                Due.is("value(" + some + ") without " + silent, x.value(some), (some | 1 << silent) == 7 ? 1 : 0);
            }
        }
    }

    static void promise27_bad() {
        Due.says("Promise 27", "BAD.");
        for (int beasts = 0; beasts <= 5; beasts++) {
            TownBand x = Due.told("ass 1 1;".repeat(beasts) + "robber 0;");
            Due.is("all of " + beasts, x.value((1 << beasts) - 1), beasts == 0 ? 0 : 1);
            int[] bad = {1 << beasts, -1, 32, 64, Due.LEAST, Due.MOST};
            for (int some : bad) {
                Due.is("value(" + some + ") of " + beasts, x.value(some), Due.BAD);
            }
        }
    }

    static void promise28_shareOfABeast() {
        Due.says("Promise 28", "SHARE of a BEAST: 0, 1.");
        // five alike, of whom all are needed: a fifth each
        TownBand x = Due.told(ASSES + "robber 14;");
        for (int b = 0; b < 5; b++) {
            fraction("five alike", x.share(b, 0), x.share(b, 1), 1, 5);
        }
        x.steel(0, 15);
        fraction("none flees", x.share(4, 0), x.share(4, 1), 0, 1);
        TownBand one = Due.told("cat 1 9;robber 0;robber 0;robber 0;robber 0;");
        fraction("one alone", one.share(0, 0), one.share(0, 1), 4, 1);
        TownBand none = Due.told("cat 1 9;");
        fraction("no ROBBERS", none.share(0, 0), none.share(0, 1), 0, 1);
        // the cock of 9 alone: 9; below or above the silent ass: 18; the ass adds only behind the cock
        TownBand two = Due.told("cock 9 9;ass 9 0;robber 8;robber 19;");
        fraction("the cock", two.share(0, 0), two.share(0, 1), 3, 2);
        fraction("the ass", two.share(1, 0), two.share(1, 1), 1, 2);
    }

    static void promise28_bad() {
        Due.says("Promise 28", "BAD.");
        int[] bad = {-1, 2, Due.LEAST, Due.MOST};
        TownBand x = Due.told("cat 1 1;cat 1 1;");
        for (int n : bad) {
            Due.is("share(" + n + ", 0)", x.share(n, 0), Due.BAD);
            Due.is("share(" + n + ", 1)", x.share(n, 1), Due.BAD);
            Due.is("share(0, " + n + ")", x.share(0, n), Due.BAD);
        }
        Due.is("of none", new TownBand().share(0, 1), Due.BAD);
        Due.is("the 6th of five", Due.told(ASSES).share(5, 0), Due.BAD);
    }

    static void promise29_howManyFlee() {
        Due.says("Promise 29", "Each in THE TOWER is hoarse by v out of ten (0 to 10), by itself (VOICE 0 then): "
            + "the mean of how many flee: 0, 1.");
        TownBand x = Due.told(ASSES + "tower 0 1 2 3 4;robber 14;robber 16;robber 18;robber 20;");
        fraction("never", x.mean(0, 0), x.mean(0, 1), 4, 1);
        fraction("always", x.mean(10, 0), x.mean(10, 1), 0, 1);
        // all four by all five voices alone: 4 * 0.9^5, 4 * 0.7^5, 4 * 0.1^5
        fraction("by 1", x.mean(1, 0), x.mean(1, 1), 59049, 25000);
        fraction("by 3", x.mean(3, 0), x.mean(3, 1), 16807, 25000);
        fraction("by 9", x.mean(9, 0), x.mean(9, 1), 1, 25000);
        fraction("by 5", x.mean(5, 0), x.mean(5, 1), 1, 8);
        x.down(0);
        fraction("nobody is in it", x.mean(5, 0), x.mean(5, 1), 0, 1);
        TownBand one = Due.told("cat 1 9;cat 1 9;tower 1;robber 8;robber 11;");
        fraction("one is in it", one.mean(3, 0), one.mean(3, 1), 7, 10);
        Due.is("VOICE stays", one.beast(1, 2), 9);
        TownBand none = new TownBand();
        fraction("a new object", none.mean(5, 0), none.mean(5, 1), 0, 1);
    }

    static void promise29_bad() {
        Due.says("Promise 29", "BAD.");
        TownBand x = Due.told(ASSES + "tower 0;robber 0;");
        int[] badOdds = {-1, 11, Due.LEAST, Due.MOST};
        int[] badParts = {-1, 2, Due.LEAST, Due.MOST};
        for (int i = 0; i < 4; i++) {
            Due.is("mean(" + badOdds[i] + ", 0)", x.mean(badOdds[i], 0), Due.BAD);
            Due.is("mean(" + badOdds[i] + ", 1)", x.mean(badOdds[i], 1), Due.BAD);
            Due.is("mean(5, " + badParts[i] + ")", x.mean(5, badParts[i]), Due.BAD);
        }
    }

    static void promise30_thatAllFlee() {
        Due.says("Promise 30", "Likewise, that all ROBBERS flee: 0, 1.");
        TownBand x = Due.told(ASSES + "tower 0 1 2 3 4;robber 14;robber 16;robber 18;robber 20;");
        fraction("never", x.luck(0, 0), x.luck(0, 1), 1, 1);
        fraction("always", x.luck(10, 0), x.luck(10, 1), 0, 1);
        fraction("by 3", x.luck(3, 0), x.luck(3, 1), 16807, 100000);
        fraction("by 9", x.luck(9, 0), x.luck(9, 1), 1, 100000);
        x.steel(3, 21);
        fraction("the last one stays", x.luck(0, 0), x.luck(0, 1), 0, 1);
        x.down(0);
        fraction("nobody is in it", x.luck(5, 0), x.luck(5, 1), 0, 1);
        TownBand none = new TownBand();
        fraction("no ROBBERS: all flee", none.luck(5, 0), none.luck(5, 1), 1, 1);
        TownBand silent = Due.told(ASSES + "tower 0 1 2;");
        fraction("no ROBBERS, all hoarse", silent.luck(10, 0), silent.luck(10, 1), 1, 1);
        TownBand one = Due.told("cat 1 9;tower 0;robber 8;");
        fraction("one by 4", one.luck(4, 0), one.luck(4, 1), 3, 5);
    }

    static void promise30_bad() {
        Due.says("Promise 30", "BAD.");
        TownBand x = Due.told(ASSES + "tower 0;robber 0;");
        int[] badOdds = {-1, 11, Due.LEAST, Due.MOST};
        int[] badParts = {-1, 2, Due.LEAST, Due.MOST};
        for (int i = 0; i < 4; i++) {
            Due.is("luck(" + badOdds[i] + ", 0)", x.luck(badOdds[i], 0), Due.BAD);
            Due.is("luck(" + badOdds[i] + ", 1)", x.luck(badOdds[i], 1), Due.BAD);
            Due.is("luck(5, " + badParts[i] + ")", x.luck(5, badParts[i]), Due.BAD);
        }
    }
}
