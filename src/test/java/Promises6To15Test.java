/** Promises 6 to 15 (what there is, what is changed): each bound by the sentence that tells it. */
public final class Promises6To15Test {
    private static final String FIVE = "ass 1 1;ass 2 2;ass 3 3;ass 4 4;ass 5 5;";
    private static final String FOUR = "robber 0;robber 99;robber 7;robber 8;";
    /** What no call takes for a number that begins at 0, whatever its bound. */
    private static final int[] FAR = {-1, Due.LEAST, Due.MOST};

    public static void main(String[] args) throws Exception {
        Due.runAll(Promises6To15Test.class);
    }

    static void promise6_fromNoneToAll() {
        Due.says("Promise 6", "0 BEASTS, 1 ROBBERS, 2 how many are in THE TOWER, 3 SCOUT, "
            + "4 who is in THE TOWER (bits).");
        rules(new TownBand(), 0, 0, 0, 5, 0);
        rules(Due.told("cat 1 1;robber 1;scout 0;tower 0;"), 1, 1, 1, 0, 1);
        rules(Due.told(FIVE + FOUR + "scout 40;tower 4 2;"), 5, 4, 2, 40, 20);
        rules(Due.told("ass 1 1;ass 1 1;ass 1 1;ass 1 1;ass 1 1;tower 4 3 2 1 0;"), 5, 0, 5, 5, 31);
    }

    private static void rules(TownBand x, int... want) {
        for (int what = 0; what < want.length; what++) {
            Due.is("rule(" + what + ")", x.rule(what), want[what]);
        }
    }

    static void promise6_bad() {
        Due.says("Promise 6", "BAD.");
        TownBand x = Due.told(FIVE);
        Due.is("rule(5)", x.rule(5), Due.BAD);
        for (int what : FAR) {
            Due.is("rule(" + what + ")", x.rule(what), Due.BAD);
        }
    }

    static void promise7_ofABeast() {
        Due.says("Promise 7", "Of a BEAST: 0 KIND, 1 WEIGHT, 2 VOICE, 3 BEARS, 4 HURTS,");
        TownBand x = Due.told("cock 1 0;cock 9 9;ass 1 9;ass 9 0;hound 5 5;");
        int[][] want = {{0, 1, 0, 1, 1}, {0, 9, 9, 9, 1}, {3, 1, 9, 7, 7}, {3, 9, 0, 23, 7}, {2, 5, 5, 12, 4}};
        for (int b = 0; b < 5; b++) {
            for (int what = 0; what < 5; what++) {
                Due.is("beast(" + b + ", " + what + ")", x.beast(b, what), want[b][what]);
            }
        }
    }

    static void promise7_itsPlaceInTheTower() {
        Due.says("Promise 7", "5 its place in THE TOWER (0 the lowest; NONE),");
        TownBand x = Due.told("ass 1 1;ass 1 1;ass 1 1;ass 1 1;ass 1 1;tower 3 1 4 0 2;");
        int[] places = {3, 1, 4, 0, 2};
        for (int b = 0; b < 5; b++) {
            Due.is("its place", x.beast(b, 5), places[b]);
        }
        x.down(4);
        Due.is("the highest one is in it no more", x.beast(2, 5), Due.NONE);
        Due.is("the one below still is", x.beast(0, 5), 3);
        x.down(0);
        Due.is("nobody is in it", x.beast(3, 5), Due.NONE);
    }

    static void promise7_itsBed() {
        Due.says("Promise 7", "6 its BED.");
        TownBand x = Due.told(FIVE + "beds 4 3 1 2 0;");
        int[] beds = {4, 2, 3, 1, 0};
        for (int b = 0; b < 5; b++) {
            Due.is("its BED", x.beast(b, 6), beds[b]);
        }
        Due.is("of one alone", Due.told("cat 1 1;").beast(0, 6), 0);
    }

    static void promise7_bad() {
        Due.says("Promise 7", "BAD.");
        TownBand x = Due.told("cat 1 1;cat 1 1;");
        for (int what = -1; what <= 7; what++) {
            Due.is("beast(2, " + what + ")", x.beast(2, what), Due.BAD);
            for (int b : FAR) {
                Due.is("beast(" + b + ", " + what + ")", x.beast(b, what), Due.BAD);
            }
        }
        for (int b = 0; b < 2; b++) {
            Due.is("beast(" + b + ", 7)", x.beast(b, 7), Due.BAD);
            for (int what : FAR) {
                Due.is("beast(" + b + ", " + what + ")", x.beast(b, what), Due.BAD);
            }
        }
        Due.is("the 6th of five", Due.told(FIVE).beast(5, 0), Due.BAD);
    }

    static void promise8_courage() {
        Due.says("Promise 8", "COURAGE of a ROBBER.");
        TownBand x = Due.told(FOUR);
        int[] want = {0, 99, 7, 8};
        for (int r = 0; r < 4; r++) {
            Due.is("robber(" + r + ")", x.robber(r), want[r]);
        }
    }

    static void promise8_bad() {
        Due.says("Promise 8", "BAD.");
        TownBand x = Due.told(FOUR);
        Due.is("the 5th of four", x.robber(4), Due.BAD);
        for (int r : FAR) {
            Due.is("robber(" + r + ")", x.robber(r), Due.BAD);
        }
        Due.is("the 2nd of one", Due.told("robber 3;").robber(1), Due.BAD);
        Due.is("the first of none", Due.told(FIVE).robber(0), Due.BAD);
    }

    static void promise9_atAPlace() {
        Due.says("Promise 9", "The BEAST at a place of THE TOWER (row 0), in a BED (1).");
        TownBand x = Due.told("ass 1 1;ass 1 1;ass 1 1;ass 1 1;ass 1 1;tower 3 1 4 0 2;beds 4 3 1 2 0;");
        int[] tower = {3, 1, 4, 0, 2};
        int[] beds = {4, 3, 1, 2, 0};
        for (int i = 0; i < 5; i++) {
            Due.is("at(0, " + i + ")", x.at(0, i), tower[i]);
            Due.is("at(1, " + i + ")", x.at(1, i), beds[i]);
        }
    }

    static void promise9_bad() {
        Due.says("Promise 9", "BAD.");
        TownBand x = Due.told("ass 1 1;ass 1 1;ass 1 1;tower 1 0;");
        Due.is("the highest one", x.at(0, 1), 0);
        Due.is("above it", x.at(0, 2), Due.BAD);
        Due.is("the last BED", x.at(1, 2), 2);
        Due.is("behind it", x.at(1, 3), Due.BAD);
        for (int i : FAR) {
            Due.is("at(0, " + i + ")", x.at(0, i), Due.BAD);
            Due.is("at(1, " + i + ")", x.at(1, i), Due.BAD);
            Due.is("at(" + i + ", 0)", x.at(i, 0), Due.BAD);
        }
        Due.is("at(2, 0)", x.at(2, 0), Due.BAD);
        TownBand full = Due.told("ass 1 1;ass 1 1;ass 1 1;ass 1 1;ass 1 1;tower 0 1 2 3 4;");
        Due.is("above five", full.at(0, 5), Due.BAD);
        Due.is("behind five", full.at(1, 5), Due.BAD);
        x.down(0);
        Due.is("of nobody", x.at(0, 0), Due.BAD);
    }

    static void promise10_becomesV() {
        Due.says("Promise 10", "KIND, WEIGHT, VOICE (what 0 to 2) of a BEAST becomes v: what it was.");
        TownBand x = Due.told("cat 5 5;hound 6 6;");
        int[] least = {0, 1, 0};
        int[] most = {3, 9, 9};
        int[] was = {2, 6, 6};
        for (int what = 0; what < 3; what++) {
            Due.is("to the least", x.alter(1, what, least[what]), was[what]);
            Due.is("it is", x.beast(1, what), least[what]);
            Due.is("to the most", x.alter(1, what, most[what]), least[what]);
            Due.is("it is then", x.beast(1, what), most[what]);
            Due.is("to the same", x.alter(1, what, most[what]), most[what]);
        }
        Due.is("the other one's KIND", x.beast(0, 0), 1);
        Due.is("the other one's WEIGHT", x.beast(0, 1), 5);
        Due.is("the other one's VOICE", x.beast(0, 2), 5);
    }

    static void promise10_bad() {
        Due.says("Promise 10", "BAD;");
        TownBand x = Due.told("cat 5 5;hound 6 6;");
        int[] below = {-1, 0, -1};
        int[] above = {4, 10, 10};
        int[] is = {1, 5, 5};
        for (int what = 0; what < 3; what++) {
            int[] bad = {below[what], above[what], Due.LEAST, Due.MOST};
            for (int v : bad) {
                Due.is("alter(0, " + what + ", " + v + ")", x.alter(0, what, v), Due.BAD);
                Due.is("it stays", x.beast(0, what), is[what]);
            }
            Due.is("alter(2, ..)", x.alter(2, what, 1), Due.BAD);
            for (int b : FAR) {
                Due.is("alter(" + b + ", ..)", x.alter(b, what, 1), Due.BAD);
            }
        }
        Due.is("alter(0, 3, 1)", x.alter(0, 3, 1), Due.BAD);
        for (int what : FAR) {
            Due.is("alter(0, " + what + ", 1)", x.alter(0, what, 1), Due.BAD);
        }
    }

    static void promise10_stateWouldNotStand() {
        Due.says("Promise 10", "STATE: THE TOWER would not STAND.");
        // the lowest one bears 9, two of 4 weigh upon it; 4 bears 4
        TownBand x = Due.told("cock 9 1;cock 4 1;cock 4 1;cock 4 1;tower 0 1 2;");
        Due.is("bears just so", x.alter(0, 1, 8), 9);
        Due.is("bears too little", x.alter(0, 1, 7), Due.STATE);
        Due.is("WEIGHT stays", x.beast(0, 1), 8);
        Due.is("the highest one too heavy for the next", x.alter(2, 1, 5), Due.STATE);
        Due.is("its WEIGHT stays", x.beast(2, 1), 4);
        Due.is("the next one too heavy for the lowest", x.alter(1, 1, 5), Due.STATE);
        Due.is("the highest one may be lighter", x.alter(2, 1, 3), 4);
        Due.is("then the next one heavier", x.alter(1, 1, 5), 4);
        Due.is("THE TOWER is as it was", x.rule(4), 7);
        Due.is("who is not in it may be anything", x.alter(3, 1, 9), 4);
        Due.is("VOICE is never refused", x.alter(0, 2, 9), 1);
        // an ass of 1 bears 7, a hound 4, a cat 2, a cock 1
        TownBand y = Due.told("ass 1 1;cock 2 1;tower 0 1;");
        Due.is("as a hound", y.alter(0, 0, 2), 3);
        Due.is("as a cat", y.alter(0, 0, 1), 2);
        Due.is("as a cock", y.alter(0, 0, 0), Due.STATE);
        Due.is("KIND stays", y.beast(0, 0), 1);
        y.down(1);
        Due.is("as a cock, alone", y.alter(0, 0, 0), 1);
    }

    static void promise11_courageBecomesV() {
        Due.says("Promise 11", "COURAGE of a ROBBER becomes v: what it was.");
        TownBand x = Due.told("robber 5;robber 6;robber 7;robber 8;");
        for (int r = 0; r < 4; r++) {
            Due.is("to 0", x.steel(r, 0), 5 + r);
            Due.is("to 99", x.steel(r, 99), 0);
            Due.is("to the same", x.steel(r, 99), 99);
            Due.is("it is", x.robber(r), 99);
            Due.is("the others stay", x.count(5), 99 * (r + 1) + (r < 1 ? 6 : 0) + (r < 2 ? 7 : 0) + (r < 3 ? 8 : 0));
        }
    }

    static void promise11_bad() {
        Due.says("Promise 11", "BAD.");
        TownBand x = Due.told("robber 5;robber 6;");
        int[] bad = {-1, 100, Due.LEAST, Due.MOST};
        for (int v : bad) {
            Due.is("steel(1, " + v + ")", x.steel(1, v), Due.BAD);
        }
        Due.is("steel(2, 1)", x.steel(2, 1), Due.BAD);
        for (int r : FAR) {
            Due.is("steel(" + r + ", 1)", x.steel(r, 1), Due.BAD);
        }
        Due.is("COURAGE stays", x.count(5), 11);
        Due.is("of none", new TownBand().steel(0, 1), Due.BAD);
        Due.is("the 5th of four", Due.told(FOUR).steel(4, 1), Due.BAD);
    }

    static void promise12_scoutBecomesV() {
        Due.says("Promise 12", "SCOUT becomes v (0 to 40): what it was.");
        TownBand x = new TownBand();
        Due.is("least", x.scout(0), 5);
        Due.is("it is", x.rule(3), 0);
        Due.is("most", x.scout(40), 0);
        Due.is("it is then", x.rule(3), 40);
        Due.is("the same", x.scout(40), 40);
    }

    static void promise12_bad() {
        Due.says("Promise 12", "BAD.");
        TownBand x = new TownBand();
        int[] bad = {-1, 41, Due.LEAST, Due.MOST};
        for (int v : bad) {
            Due.is("scout(" + v + ")", x.scout(v), Due.BAD);
            Due.is("it stays", x.rule(3), 5);
        }
    }

    static void promise13_onTop() {
        Due.says("Promise 13", "A BEAST climbs on top of THE TOWER: how many are in it.");
        TownBand x = Due.told("ass 1 1;ass 1 1;ass 1 1;ass 1 1;ass 1 1;");
        for (int i = 0; i < 5; i++) {
            Due.is("climb(" + (4 - i) + ")", x.climb(4 - i), i + 1);
            Due.is("on top", x.at(0, i), 4 - i);
        }
    }

    static void promise13_bad() {
        Due.says("Promise 13", "BAD;");
        TownBand x = Due.told("cat 1 1;cat 1 1;");
        Due.is("climb(2)", x.climb(2), Due.BAD);
        for (int b : FAR) {
            Due.is("climb(" + b + ")", x.climb(b), Due.BAD);
        }
        Due.is("nobody climbed", x.rule(2), 0);
        TownBand full = Due.told("ass 1 1;ass 1 1;ass 1 1;ass 1 1;ass 1 1;tower 0 1 2 3 4;");
        Due.is("climb(5) on five", full.climb(5), Due.BAD);
        Due.is("of none", new TownBand().climb(0), Due.BAD);
    }

    static void promise13_stateIsInItWouldNotStand() {
        Due.says("Promise 13", "STATE: it is in it, it would not STAND.");
        TownBand x = Due.told("cock 5 0;cock 3 0;cock 2 0;cock 1 0;cock 4 0;");
        x.climb(0);
        Due.is("it is in it", x.climb(0), Due.STATE);
        x.climb(1);
        Due.is("4 upon 3", x.climb(4), Due.STATE);
        Due.is("2 upon 3, and 5 bears 5", x.climb(2), 3);
        Due.is("1 upon 2, but 5 would bear 6", x.climb(3), Due.STATE);
        Due.is("the highest one is in it", x.climb(2), Due.STATE);
        Due.is("three are in it", x.rule(4), 7);
        Due.is("the highest one", x.at(0, 2), 2);
        TownBand full = Due.told("ass 1 1;ass 1 1;ass 1 1;ass 1 1;ass 1 1;tower 0 1 2 3 4;");
        for (int b = 0; b < 5; b++) {
            Due.is("all are in it", full.climb(b), Due.STATE);
        }
    }

    static void promise14_lowestAlone() {
        Due.says("Promise 14", "THE TOWER keeps its lowest n alone: how many it had.");
        TownBand x = Due.told("ass 1 1;ass 1 1;ass 1 1;ass 1 1;ass 1 1;tower 3 1 4 0 2;");
        Due.is("all", x.down(5), 5);
        Due.is("four", x.down(4), 5);
        Due.is("who is in it", x.rule(4), 27);
        Due.is("one", x.down(1), 4);
        Due.is("the lowest one", x.at(0, 0), 3);
        Due.is("alone", x.rule(2), 1);
        Due.is("none", x.down(0), 1);
        Due.is("none of none", x.down(0), 0);
        Due.is("nobody", x.rule(4), 0);
        Due.is("of a new object", new TownBand().down(0), 0);
    }

    static void promise14_bad() {
        Due.says("Promise 14", "BAD.");
        TownBand x = Due.told("ass 1 1;ass 1 1;ass 1 1;tower 2 0;");
        int[] bad = {-1, 3, 5, Due.LEAST, Due.MOST};
        for (int n : bad) {
            Due.is("down(" + n + ")", x.down(n), Due.BAD);
            Due.is("all are in it", x.rule(4), 5);
        }
        Due.is("1 of none", new TownBand().down(1), Due.BAD);
        TownBand full = Due.told("ass 1 1;ass 1 1;ass 1 1;ass 1 1;ass 1 1;tower 0 1 2 3 4;");
        Due.is("6 of five", full.down(6), Due.BAD);
    }

    static void promise15_twoBedsChange() {
        Due.says("Promise 15", "BEASTS of two BEDS change: who is in the first one then.");
        TownBand x = Due.told(FIVE + "beds 4 3 1 2 0;");
        Due.is("the first and the last", x.swap(0, 4), 0);
        Due.is("BED 4", x.at(1, 4), 4);
        Due.is("the other way round", x.swap(4, 0), 0);
        Due.is("BED 0", x.at(1, 0), 4);
        Due.is("beside one another", x.swap(1, 2), 1);
        Due.is("BED 2", x.at(1, 2), 3);
        Due.is("BED 3 stays", x.at(1, 3), 2);
        Due.is("its BED is told so", x.beast(3, 6), 2);
    }

    static void promise15_badAlsoAlike() {
        Due.says("Promise 15", "BAD (also alike).");
        TownBand x = Due.told("cat 1 1;cat 1 1;cat 1 1;");
        for (int i = 0; i < 3; i++) {
            Due.is("alike", x.swap(i, i), Due.BAD);
            Due.is("swap(" + i + ", 3)", x.swap(i, 3), Due.BAD);
            Due.is("swap(3, " + i + ")", x.swap(3, i), Due.BAD);
            for (int j : FAR) {
                Due.is("swap(" + i + ", " + j + ")", x.swap(i, j), Due.BAD);
                Due.is("swap(" + j + ", " + i + ")", x.swap(j, i), Due.BAD);
            }
        }
        for (int i = 0; i < 3; i++) {
            Due.is("BED " + i, x.at(1, i), i);
        }
        Due.is("of one", Due.told("cat 1 1;").swap(0, 0), Due.BAD);
        Due.is("of none", new TownBand().swap(0, 0), Due.BAD);
        Due.is("the 6th of five", Due.told(FIVE).swap(4, 5), Due.BAD);
    }
}
