/** Promises 27 to 30: value, share, mean, luck. */
public final class SharesTest {
    private static final String TALE = "ass 9 4;hound 6 6;cat 3 7;cock 2 9;robber 20;robber 44;robber 70;";

    public static void main(String[] args) {
        values();
        shares();
        means();
        lucks();
        Due.finish();
    }

    private static void values() {
        TownBand x = Due.told(TALE);
        Due.is("value(0)", x.value(0), 0);
        Due.is("value(7)", x.value(7), 1);
        Due.is("value(15)", x.value(15), 3);
        Due.is("value(16)", x.value(16), Due.BAD);
        Due.is("value(-1)", x.value(-1), Due.BAD);
        Due.is("value of none", new TownBand().value(0), 0);
        Due.is("value(1) of none", new TownBand().value(1), Due.BAD);
        // not all of them need to be in the tower: the cock bears nobody else
        TownBand y = Due.told("cock 1 9;ass 9 0;cock 9 0;robber 8;robber 17;");
        Due.is("value(1)", y.value(1), 1);
        Due.is("value(5)", y.value(5), 2);
        Due.is("value(6)", y.value(6), 0);
        Due.is("value(7) of some", y.value(7), 2);
        y.steel(0, 99);
        y.steel(1, 99);
        Due.is("value(7) of the braver", y.value(7), 0);
        // one alone is as loud as may be: whoever comes with it adds nothing
        for (int b = 0; b < 5; b++) {
            TownBand one = Due.told("cock 1 0;cock 1 0;cock 1 0;cock 1 0;cock 1 0;robber 8;");
            one.alter(b, 2, 9);
            one.alter(b, 1, 9);
            for (int some = 0; some < 32; some++) {
                Due.is("value of those with " + b, one.value(some), some >> b & 1);
            }
        }
        TownBand five = Due.told("ass 9 1;ass 9 1;ass 9 1;ass 9 1;ass 9 1;robber 2;");
        Due.is("value(31)", five.value(31), 1);
        Due.is("value(32)", five.value(32), Due.BAD);
    }

    private static void shares() {
        TownBand x = Due.told(TALE);
        share(x, 0, 7, 12);
        share(x, 1, 7, 12);
        share(x, 2, 7, 12);
        share(x, 3, 5, 4);
        Due.is("share(4, 0)", x.share(4, 0), Due.BAD);
        Due.is("share(-1, 0)", x.share(-1, 0), Due.BAD);
        Due.is("share(0, 2)", x.share(0, 2), Due.BAD);
        Due.is("share(0, -1)", x.share(0, -1), Due.BAD);
        Due.is("share of none", new TownBand().share(0, 0), Due.BAD);
        TownBand alone = Due.told("cat 1 5;robber 4;");
        share(alone, 0, 1, 1);
        TownBand idle = Due.told("cat 1 5;robber 5;");
        share(idle, 0, 0, 1);
        // either frightens him: half each, and a third one has nothing
        TownBand two = Due.told("cat 1 5;cat 1 5;cat 1 0;robber 4;");
        two.alter(2, 1, 9);
        share(two, 0, 1, 2);
        share(two, 1, 1, 2);
        share(two, 2, 0, 1);
    }

    private static void share(TownBand x, int b, long over, long under) {
        Due.is("share over " + b, x.share(b, 0), over);
        Due.is("share under " + b, x.share(b, 1), under);
    }

    private static void means() {
        TownBand x = Due.told("ass 9 4;cat 3 7;robber 3;robber 10;tower 0 1;");
        // noise 18, 14 if the ass is hoarse, 4 if the cat is (one flees), 0 if both are
        mean(x, 0, 2, 1);
        mean(x, 10, 0, 1);
        mean(x, 5, 5, 4);
        // 0.7*0.7*2 + 0.3*0.7*2 + 0.7*0.3*1
        mean(x, 3, 161, 100);
        Due.is("mean(-1, 0)", x.mean(-1, 0), Due.BAD);
        Due.is("mean(11, 0)", x.mean(11, 0), Due.BAD);
        Due.is("mean(1, 2)", x.mean(1, 2), Due.BAD);
        Due.is("mean(1, -1)", x.mean(1, -1), Due.BAD);
        Due.is("voices are as they were", x.noise(), 18);
        mean(new TownBand(), 5, 0, 1);
        TownBand five = Due.told("ass 1 1;ass 1 1;ass 1 1;ass 1 1;ass 1 1;tower 0 1 2 3 4;robber 14;");
        mean(five, 1, 59049, 100000);
    }

    private static void mean(TownBand x, int v, long over, long under) {
        Due.is("mean over " + v, x.mean(v, 0), over);
        Due.is("mean under " + v, x.mean(v, 1), under);
    }

    private static void lucks() {
        TownBand x = Due.told("ass 9 4;cat 3 7;robber 3;robber 10;tower 0 1;");
        luck(x, 0, 1, 1);
        luck(x, 10, 0, 1);
        luck(x, 5, 1, 2);
        luck(x, 3, 7, 10);
        Due.is("luck(-1, 0)", x.luck(-1, 0), Due.BAD);
        Due.is("luck(11, 0)", x.luck(11, 0), Due.BAD);
        Due.is("luck(1, 2)", x.luck(1, 2), Due.BAD);
        Due.is("luck(1, -1)", x.luck(1, -1), Due.BAD);
        luck(new TownBand(), 5, 1, 1);
        luck(Due.told("robber 0;"), 5, 0, 1);
        luck(Due.told("cat 1 1;tower 0;"), 5, 1, 1);
    }

    private static void luck(TownBand x, int v, long over, long under) {
        Due.is("luck over " + v, x.luck(v, 0), over);
        Due.is("luck under " + v, x.luck(v, 1), under);
    }
}
