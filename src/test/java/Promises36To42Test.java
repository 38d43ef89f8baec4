/** Promises 36 to 42 (images, sheets, count): each bound by the sentence that tells it. */
public final class Promises36To42Test {
    private static final String ASSES = "ass 1 1;ass 1 1;ass 1 1;ass 1 1;ass 1 1;";
    private static final int NULL = 1, INDEX = 2, CAST = 3;

    public static void main(String[] args) throws Exception {
        Due.runAll(Promises36To42Test.class);
    }

    static void promise36_anImageIs() {
        Due.says("Promise 36", "IMAGE k (0, 1) is BEASTS, ROBBERS (all of them), THE TOWER, BEDS, SCOUT: "
            + "whether there was one (1, 0).");
        TownBand x = Due.told(ASSES + "robber 1;robber 2;robber 3;robber 4;tower 4 3 2 1 0;beds 1 0 3 2 4;scout 40;");
        for (int k = 0; k < 2; k++) {
            Due.is("there was none", x.keep(k), 0);
            Due.is("there was one", x.keep(k), 1);
            Due.is("IMAGES", x.count(1), k + 1);
        }
        spoil(x);
        Due.is("back(1)", x.back(1), 5);
        asTold(x);
        spoil(x);
        // the later one takes the place of the one that was
        Due.is("there was one", x.keep(0), 1);
        x.back(1);
        asTold(x);
        Due.is("back(0)", x.back(0), 0);
        Due.is("as it was spoilt", x.count(4), 45);
        Due.is("of nothing at all", new TownBand().keep(1), 0);
    }

    private static void spoil(TownBand x) {
        x.down(0);
        x.swap(0, 4);
        x.scout(0);
        for (int b = 0; b < 5; b++) {
            x.alter(b, 0, b % 3);
            x.alter(b, 1, 9);
            x.alter(b, 2, 9);
        }
        for (int r = 0; r < 4; r++) {
            x.steel(r, 99);
        }
    }

    private static void asTold(TownBand x) {
        int[] beds = {1, 0, 3, 2, 4};
        for (int b = 0; b < 5; b++) {
            Due.is("KIND", x.beast(b, 0), 3);
            Due.is("WEIGHT", x.beast(b, 1), 1);
            Due.is("VOICE", x.beast(b, 2), 1);
            Due.is("THE TOWER", x.at(0, b), 4 - b);
            Due.is("BEDS", x.at(1, b), beds[b]);
        }
        for (int r = 0; r < 4; r++) {
            Due.is("all ROBBERS", x.robber(r), r + 1);
        }
        Due.is("SCOUT", x.rule(3), 40);
    }

    static void promise36_bad() {
        Due.says("Promise 36", "BAD.");
        TownBand x = Due.told(ASSES);
        int[] bad = {-1, 2, Due.LEAST, Due.MOST};
        for (int k : bad) {
            Due.is("keep(" + k + ")", x.keep(k), Due.BAD);
        }
        Due.is("no IMAGES", x.count(1), 0);
    }

    static void promise37_asTheImage() {
        Due.says("Promise 37", "All is as IMAGE k: how many are in THE TOWER.");
        TownBand none = new TownBand();
        none.keep(0);
        Due.is("nobody, of nothing", none.back(0), 0);
        TownBand x = Due.told(ASSES + "tower 0 1 2 3 4;");
        x.keep(1);
        x.down(0);
        x.keep(0);
        Due.is("five", x.back(1), 5);
        Due.is("nobody", x.back(0), 0);
        Due.is("five again", x.back(1), 5);
        // what comes behind it does not change the IMAGE
        x.down(2);
        x.alter(0, 2, 9);
        Due.is("as it was kept", x.back(1), 5);
        Due.is("its VOICE", x.beast(0, 2), 1);
        Due.is("IMAGES stay", x.count(1), 2);
    }

    static void promise37_badStateThereIsNone() {
        Due.says("Promise 37", "BAD; STATE: there is none.");
        TownBand x = Due.told(ASSES + "tower 0;");
        int[] bad = {-1, 2, Due.LEAST, Due.MOST};
        for (int k : bad) {
            Due.is("back(" + k + ")", x.back(k), Due.BAD);
        }
        Due.is("back(0)", x.back(0), Due.STATE);
        Due.is("back(1)", x.back(1), Due.STATE);
        x.keep(1);
        x.climb(1);
        Due.is("still none", x.back(0), Due.STATE);
        Due.is("all stays", x.rule(2), 2);
        Due.is("the other one", x.back(1), 1);
    }

    static void promise38_aNewRowOfCells0() {
        Due.says("Promise 38", "A SHEET is a new row of CELLS 0: 1.");
        TownBand x = Due.told(ASSES);
        for (int k = 0; k < 4; k++) {
            for (int lane = 0; lane < 3; lane++) {
                Due.is("40 CELLS", x.sheet(k, lane, 40), 1);
                x.lay(k, 0, 4);
                x.lay(k, 39, 4);
                Due.is("40 CELLS anew", x.sheet(k, lane, 40), 1);
                zero(x, k, lane, 0);
                zero(x, k, lane, 39);
                Due.is("0 CELLS", x.sheet(k, lane, 0), 1);
                Due.is("none of them", x.lay(k, 0, 0), -12);
            }
        }
        x.sheet(0, 2, 5);
        x.lay(0, 4, 3);
        x.sheet(0, 2, 4);
        x.sheet(0, 2, 5);
        zero(x, 0, 2, 4);
    }

    private static void zero(TownBand x, int k, int lane, int f) {
        x.down(0);
        Due.is("CELL " + f, x.read(k, lane, f, 1), 1);
        Due.is("CELL " + f + " is 0", x.at(0, 0), 0);
    }

    static void promise38_badAlsoNAbove40() {
        Due.says("Promise 38", "BAD: also n above 40;");
        TownBand x = new TownBand();
        x.sheet(0, 1, 3);
        int[] badSheets = {-1, 4, Due.LEAST, Due.MOST};
        int[] badLanes = {-1, 3, Due.LEAST, Due.MOST};
        int[] badSizes = {41, 42, 100, Due.MOST};
        for (int i = 0; i < 4; i++) {
            Due.is("sheet(" + badSheets[i] + ", 0, 1)", x.sheet(badSheets[i], 0, 1), Due.BAD);
            Due.is("sheet(0, " + badLanes[i] + ", 1)", x.sheet(0, badLanes[i], 1), Due.BAD);
            Due.is("sheet(0, 0, " + badSizes[i] + ")", x.sheet(0, 0, badSizes[i]), Due.BAD);
            Due.is("BAD first: k", x.sheet(badSheets[i], 0, -1), Due.BAD);
            Due.is("BAD first: lane", x.sheet(0, badLanes[i], -1), Due.BAD);
        }
        Due.is("it stays", x.count(3), 3);
        Due.is("40 is not above", x.sheet(0, 0, 40), 1);
    }

    static void promise38_sizeBelow0() {
        Due.says("Promise 38", "-10 - 4.");
        TownBand x = new TownBand();
        x.sheet(0, 1, 3);
        int[] below = {-1, -40, Due.LEAST};
        for (int n : below) {
            for (int lane = 0; lane < 3; lane++) {
                Due.is("sheet(0, " + lane + ", " + n + ")", x.sheet(0, lane, n), -14);
                Due.is("sheet(3, " + lane + ", " + n + ")", x.sheet(3, lane, n), -14);
            }
        }
        Due.is("it stays", x.count(3), 3);
        Due.is("nothing stays nothing", x.lay(3, 0, 0), -11);
        Due.is("torn() is of read() alone", x.torn(), 0);
    }

    static void promise39_itsLowestBits() {
        Due.says("Promise 39", "CELL i of a SHEET becomes v (its lowest bits): 1.");
        TownBand x = Due.told(ASSES);
        x.sheet(0, 0, 40);
        x.sheet(1, 1, 40);
        x.sheet(2, 2, 40);
        // what a BYTE, a SHORT, an INT make of v: a BEAST, or none (-1)
        int[] values = {4, 5, -1, 128, 255, 256, 260, -252, 32768, 65535, 65536, 65539, -65534, Due.LEAST, Due.MOST,
            Due.LEAST + 2};
        int[][] beasts = {
            {4, -1, -1, -1, -1, 0, 4, 4, 0, -1, 0, 3, 2, 0, -1, 2},
            {4, -1, -1, -1, -1, -1, -1, -1, -1, -1, 0, 3, 2, 0, -1, 2},
            {4, -1, -1, -1, -1, -1, -1, -1, -1, -1, -1, -1, -1, -1, -1, -1}};
        for (int k = 0; k < 3; k++) {
            for (int i = 0; i < values.length; i++) {
                int cell = i % 2 == 0 ? 0 : 39;
                Due.is("lay", x.lay(k, cell, values[i]), 1);
                x.down(0);
                boolean one = beasts[k][i] >= 0;
                Due.is("lane " + k + " of " + values[i], x.read(k, k, cell, 1), one ? 1 : -20);
                Due.is("lane " + k + " makes of " + values[i], x.at(0, 0), one ? beasts[k][i] : Due.BAD);
            }
        }
    }

    static void promise39_badK() {
        Due.says("Promise 39", "BAD: k;");
        TownBand x = new TownBand();
        int[] bad = {-1, 4, Due.LEAST, Due.MOST};
        for (int k : bad) {
            Due.is("lay(" + k + ", 0, 0)", x.lay(k, 0, 0), Due.BAD);
            Due.is("BAD first: of " + k, x.lay(k, -1, 0), Due.BAD);
        }
    }

    static void promise39_nullIndex() {
        Due.says("Promise 39", "-10 less the FAULT: NULL, INDEX.");
        TownBand x = Due.told(ASSES);
        int[] places = {0, -1, 40, Due.LEAST, Due.MOST};
        for (int k = 0; k < 4; k++) {
            for (int i : places) {
                Due.is("NULL, whatever i", x.lay(k, i, 1), -11);
            }
        }
        x.sheet(0, 0, 3);
        int[] outside = {-1, 3, 39, 40, Due.LEAST, Due.MOST};
        for (int i : outside) {
            Due.is("INDEX " + i, x.lay(0, i, 1), -12);
        }
        Due.is("the last CELL", x.lay(0, 2, 1), 1);
        Due.is("the first CELL", x.lay(0, 0, 2), 1);
        Due.is("CELL 1 is 0 still", x.read(0, 0, 0, 3), 3);
        Due.is("THE TOWER", x.at(0, 1), 0);
        x.sheet(0, 0, 0);
        Due.is("of no CELLS", x.lay(0, 0, 1), -12);
        Due.is("torn() is of read() alone", x.torn(), 0);
    }

    private static TownBand withSheet(int lane, int... cells) {
        TownBand x = Due.told(ASSES);
        x.sheet(0, lane, cells.length);
        for (int i = 0; i < cells.length; i++) {
            x.lay(0, i, cells[i]);
        }
        return x;
    }

    static void promise40_oneBehindAnother() {
        Due.says("Promise 40", "n (0 to 20) BEASTS are read of a SHEET taken as of a lane, from CELL f on, "
            + "one behind another as by climb(): how many climbed.");
        for (int lane = 0; lane < 3; lane++) {
            TownBand x = withSheet(lane, 4, 2, 0, 1, 3);
            Due.is("none", x.read(0, lane, 0, 0), 0);
            Due.is("nobody", x.rule(2), 0);
            Due.is("the last CELL", x.read(0, lane, 4, 1), 1);
            Due.is("it", x.at(0, 0), 3);
            Due.is("the first four", x.read(0, lane, 0, 4), 4);
            int[] row = {3, 4, 2, 0, 1};
            for (int i = 0; i < 5; i++) {
                Due.is("one behind another", x.at(0, i), row[i]);
            }
            x.down(0);
            Due.is("all five", x.read(0, lane, 0, 5), 5);
            Due.is("torn", x.torn(), 0);
        }
        TownBand most = withSheet(2, 4, 2);
        Due.is("20, of which two are there", most.read(0, 2, 0, 20), 2);
    }

    static void promise40_whatTheMachineRefuses() {
        Due.says("Promise 40", "What the machine refuses: those ahead climbed (its FAULT is asked by torn()).");
        TownBand x = withSheet(1, 4, 2, 0);
        fault(x, 0, 1, 0, 20, 3, INDEX);
        Due.is("those ahead", x.rule(4), 21);
        x.down(0);
        fault(x, 0, 1, 2, 2, 1, INDEX);
        Due.is("the one ahead", x.rule(4), 1);
        int[] outside = {-1, 3, 40, Due.LEAST, Due.MOST, Due.MOST - 19, -19};
        for (int f : outside) {
            fault(x, 0, 1, f, 1, 0, INDEX);
            fault(x, 0, 1, f, 20, 0, INDEX);
        }
        fault(x, 0, 0, 0, 1, 0, CAST);
        fault(x, 0, 2, 0, 1, 0, CAST);
        fault(x, 0, 0, 99, 20, 0, CAST);
        for (int k = 1; k < 4; k++) {
            for (int lane = 0; lane < 3; lane++) {
                fault(x, k, lane, 0, 1, 0, NULL);
                fault(x, k, lane, -1, 20, 0, NULL);
            }
        }
        x.sheet(0, 1, 0);
        fault(x, 0, 1, 0, 1, 0, INDEX);
        Due.is("THE TOWER stays", x.rule(4), 1);
    }

    private static void fault(TownBand x, int k, int lane, int f, int n, int climbed, int fault) {
        String call = "read(" + k + ", " + lane + ", " + f + ", " + n + ")";
        x.read(0, 0, 0, 0);
        Due.is("torn ahead of " + call, x.torn(), 0);
        Due.is(call, x.read(k, lane, f, n), climbed);
        Due.is("torn behind " + call, x.torn(), fault);
    }

    static void promise40_badKLaneN() {
        Due.says("Promise 40", "BAD: k, lane, n;");
        TownBand x = withSheet(0, 4, 2, 0);
        int[] badSheets = {-1, 4, Due.LEAST, Due.MOST};
        int[] badLanes = {-1, 3, Due.LEAST, Due.MOST};
        int[] badTimes = {-1, 21, Due.LEAST, Due.MOST};
        for (int i = 0; i < 4; i++) {
            Due.is("k " + badSheets[i], x.read(badSheets[i], 0, 0, 1), Due.BAD);
            Due.is("lane " + badLanes[i], x.read(0, badLanes[i], 0, 1), Due.BAD);
            Due.is("n " + badTimes[i], x.read(0, 0, 0, badTimes[i]), Due.BAD);
            Due.is("BAD ahead of NULL", x.read(3, badLanes[i], 0, 1), Due.BAD);
            Due.is("BAD ahead of INDEX", x.read(0, 0, 99, badTimes[i]), Due.BAD);
            Due.is("BAD ahead of CAST", x.read(0, 1, 0, badTimes[i]), Due.BAD);
        }
        Due.is("nobody climbed", x.rule(2), 0);
        Due.is("torn", x.torn(), 0);
    }

    static void promise40_refusedByClimb() {
        Due.says("Promise 40", "-20 less i: the i-th is refused by climb() (in whichever way): then none did; "
            + "the first met.");
        for (int ahead = 0; ahead < 5; ahead++) {
            int[] noSuch = {0, 1, 2, 3, 4};
            noSuch[ahead] = 5;
            refused(withSheet(2, noSuch), 2, 5, ahead);
            noSuch[ahead] = -1;
            refused(withSheet(2, noSuch), 2, 20, ahead);
            if (ahead > 0) {
                noSuch[ahead] = 0;
                refused(withSheet(2, noSuch), 2, 20, ahead);
            }
        }
        // it would not STAND: an ass of 1 bears 7
        TownBand heavy = withSheet(0, 0, 1, 2);
        heavy.alter(2, 1, 7);
        refused(heavy, 0, 3, 2);
        heavy.alter(2, 1, 6);
        Due.is("just so", heavy.read(0, 0, 0, 3), 3);
        // of two FAULTS the first met: the 3rd CELL is refused, the 4th is not there
        refused(withSheet(2, 0, 1, 9), 2, 4, 2);
        TownBand all = withSheet(2, 0, 1, 2, 3, 4, 0);
        refused(all, 2, 20, 5);
        all.climb(3);
        Due.is("the one who was in it", all.read(0, 2, 2, 2), -21);
        Due.is("he alone is in it", all.rule(4), 8);
    }

    private static void refused(TownBand x, int lane, int n, int ahead) {
        x.read(3, 0, 0, 1);
        Due.is("the " + ahead + ". of " + n, x.read(0, lane, 0, n), -20 - ahead);
        Due.is("none did", x.rule(2), 0);
        Due.is("torn stays", x.torn(), NULL);
    }

    static void promise41_theLatestThatCameToAnEnd() {
        Due.says("Promise 41", "The FAULT of the latest read() that came to an end; 0.");
        TownBand x = withSheet(0, 0, 9);
        Due.is("there was none", x.torn(), 0);
        x.read(1, 0, 0, 1);
        Due.is("NULL", x.torn(), NULL);
        x.read(0, 0, 2, 1);
        Due.is("INDEX", x.torn(), INDEX);
        x.read(0, 1, 0, 1);
        Due.is("CAST", x.torn(), CAST);
        Due.is("asked again", x.torn(), CAST);
        x.read(0, 0, 0, 21);
        Due.is("BAD came to no end", x.torn(), CAST);
        x.read(0, 0, 0, 2);
        Due.is("refused by climb() came to no end", x.torn(), CAST);
        x.lay(3, 0, 0);
        x.sheet(1, 0, -1);
        Due.is("of read() alone", x.torn(), CAST);
        x.text();
        Due.is("a text does not tell it", x.torn(), CAST);
        x.read(0, 0, 0, 0);
        Due.is("of one that reads none", x.torn(), 0);
        x.read(0, 1, 0, 1);
        Due.feed(x, ASSES);
        x.text();
        x.read(0, 0, 0, 1);
        Due.is("of one without a FAULT", x.torn(), 0);
    }

    static void promise42_howMany() {
        Due.says("Promise 42", "How many: 0 SEEN, 1 IMAGES, 2 bytes on THE TAPE,");
        TownBand x = new TownBand();
        for (int i = 0; i <= 6; i++) {
            Due.is("SEEN", x.count(0), i);
            x.see(1, 1);
        }
        Due.is("SEEN at most", x.count(0), 6);
        Due.is("no IMAGES", x.count(1), 0);
        x.keep(1);
        Due.is("one of them", x.count(1), 1);
        x.keep(1);
        Due.is("the same one", x.count(1), 1);
        x.keep(0);
        Due.is("both", x.count(1), 2);
        for (int i = 0; i <= 160; i++) {
            Due.is("bytes", x.count(2), i);
            x.feed(32);
        }
        Due.is("bytes at most", x.count(2), 160);
    }

    static void promise42_cellsOfSheet0() {
        Due.says("Promise 42", "3 CELLS of SHEET 0 (NONE: nothing),");
        TownBand x = new TownBand();
        Due.is("nothing", x.count(3), Due.NONE);
        x.sheet(1, 0, 5);
        x.sheet(2, 0, 5);
        x.sheet(3, 0, 5);
        Due.is("nothing still", x.count(3), Due.NONE);
        x.sheet(0, 0, 0);
        Due.is("no CELLS", x.count(3), 0);
        x.sheet(0, 1, 1);
        Due.is("one CELL", x.count(3), 1);
        x.sheet(0, 2, 40);
        Due.is("40 CELLS", x.count(3), 40);
    }

    static void promise42_allWeightAllCourage() {
        Due.says("Promise 42", "4 all WEIGHT, 5 all COURAGE of ROBBERS.");
        TownBand none = new TownBand();
        Due.is("no WEIGHT", none.count(4), 0);
        Due.is("no COURAGE", none.count(5), 0);
        TownBand x = Due.told("ass 9 1;ass 9 1;ass 9 1;ass 9 1;ass 9 1;robber 99;robber 99;robber 99;robber 99;"
            + "scout 40;");
        Due.is("the most WEIGHT", x.count(4), 45);
        Due.is("the most COURAGE, without the scout's", x.count(5), 396);
        Due.feed(x, "cat 1 1;robber 0;");
        x.text();
        Due.is("the least WEIGHT of one", x.count(4), 1);
        Due.is("the least COURAGE of one", x.count(5), 0);
    }

    static void promise42_bad() {
        Due.says("Promise 42", "BAD.");
        int[] bad = {-1, 6, Due.LEAST, Due.MOST};
        for (int what : bad) {
            Due.is("count(" + what + ")", Due.told(ASSES).count(what), Due.BAD);
        }
    }
}
