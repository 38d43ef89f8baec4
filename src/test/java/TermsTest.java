/** 'Terms', what stands ahead of and behind the text: each bound by the sentence that tells it. */
public final class TermsTest {
    private static final String FIVE = "ass 1 1;ass 1 1;ass 1 1;ass 1 1;ass 1 1;";

    public static void main(String[] args) throws Exception {
        Due.runAll(TermsTest.class);
    }

    static void all_atMost512Calls() {
        Due.says("What it is", "An object is used for at most 512 calls after it has been made; "
            + "what later calls answer is free.");
        TownBand x = new TownBand();
        String text = "ass 1 1;ass 1 2;ass 1 3;ass 1 4;ass 1 5;tower 4;robber 9;";
        Due.feed(x, text);
        Due.is("text", x.text(), 7);
        for (int call = text.length() + 2; call <= 512; call++) {
            Due.is("call " + call, call % 2 == 0 ? x.towers() : x.climb(4), call % 2 == 0 ? 326 : Due.STATE);
        }
        // what these answer is free, but they do answer
        for (int call = 513; call < 2000; call++) {
            x.feed(' ');
            x.see(1, 1);
            x.ask(0);
        }
    }

    // ---- the first block: what there is

    static void terms_answersTheFirstThatFits() {
        Due.says("Terms", "Answers: BAD -1 (a number is not as told, there is no such BEAST, ROBBER, BED, IMAGE, "
            + "SHEET), STATE -2 (as told), FULL -3, NONE -4 (there is none), the first that fits;");
        Due.is("BAD", TownBand.BAD, -1);
        Due.is("STATE", TownBand.STATE, -2);
        Due.is("FULL", TownBand.FULL, -3);
        Due.is("NONE", TownBand.NONE, -4);
        badAheadOfState();
        badAheadOfFull();
        badAheadOfNone();
    }

    private static void badAheadOfState() {
        TownBand x = Due.told("cock 5 0;cock 5 0;tower 0 1;");
        Due.is("alter: STATE alone", x.alter(0, 1, 1), Due.STATE);
        Due.is("alter: no such WEIGHT", x.alter(0, 1, 0), Due.BAD);
        Due.is("climb: STATE alone", x.climb(1), Due.STATE);
        Due.is("climb: no such BEAST", x.climb(2), Due.BAD);
        Due.is("back: STATE alone", x.back(1), Due.STATE);
        Due.is("back: no such IMAGE", x.back(2), Due.BAD);
        TownBand none = new TownBand();
        Due.is("drift: STATE alone", none.drift(0, 1, 0), Due.STATE);
        Due.is("drift: n", none.drift(0, 0, 0), Due.BAD);
        Due.is("drift: what", none.drift(0, 1, 2), Due.BAD);
    }

    private static void badAheadOfFull() {
        TownBand x = new TownBand();
        for (int i = 0; i < 160; i++) {
            x.feed(' ');
        }
        Due.is("feed: FULL alone", x.feed(' '), Due.FULL);
        Due.is("feed: no byte", x.feed(128), Due.BAD);
        for (int i = 0; i < 6; i++) {
            x.see(1, 0);
        }
        Due.is("see: FULL alone", x.see(1, 0), Due.FULL);
        Due.is("see: n", x.see(0, 0), Due.BAD);
        Due.is("see: h", x.see(1, 100), Due.BAD);
    }

    private static void badAheadOfNone() {
        TownBand x = Due.told("cat 1 1;robber 99;");
        x.see(1, 99);
        Due.is("few: NONE alone", x.few(0), Due.NONE);
        Due.is("few: what", x.few(2), Due.BAD);
        Due.is("fits: NONE alone", x.fits(20), Due.NONE);
        Due.is("fits: no such BED", x.fits(21), Due.BAD);
        Due.is("ask: NONE alone", x.ask(0), Due.NONE);
        Due.is("ask: what", x.ask(2), Due.BAD);
        Due.is("beast: NONE alone", x.beast(0, 5), Due.NONE);
        Due.is("beast: no such BEAST", x.beast(1, 5), Due.BAD);
        Due.is("count: NONE alone", x.count(3), Due.NONE);
        Due.is("count: what", x.count(6), Due.BAD);
        Due.is("best: NONE alone", x.best(10), Due.NONE);
        Due.is("best: what", x.best(9), Due.BAD);
    }

    static void terms_fractionsInLowestTerms() {
        Due.says("Terms", "Fractions are in lowest terms, the denominator above 0 (0 is 0 by 1).");
        // either of two frightens him: 12 by 24 of the orders is 1 by 2
        TownBand x = Due.told("ass 9 5;ass 9 5;ass 9 0;ass 9 0;robber 4;tower 0 1;");
        Due.is("share", x.share(0, 0), 1);
        Due.is("share by", x.share(0, 1), 2);
        Due.is("share of 0", x.share(2, 0), 0);
        Due.is("share of 0 by", x.share(2, 1), 1);
        // 75 by 100
        Due.is("mean", x.mean(5, 0), 3);
        Due.is("mean by", x.mean(5, 1), 4);
        Due.is("mean of 0", x.mean(10, 0), 0);
        Due.is("mean of 0 by", x.mean(10, 1), 1);
        Due.is("mean of 1", x.mean(0, 0), 1);
        Due.is("mean of 1 by", x.mean(0, 1), 1);
        Due.is("luck", x.luck(5, 0), 3);
        Due.is("luck by", x.luck(5, 1), 4);
        Due.is("luck of 0", x.luck(10, 0), 0);
        Due.is("luck of 0 by", x.luck(10, 1), 1);
        Due.is("luck of 1", x.luck(0, 0), 1);
        Due.is("luck of 1 by", x.luck(0, 1), 1);
    }

    static void terms_beastsFiveAtMost() {
        Due.says("Terms", "1 BEASTS (5 at most), by order,");
        Due.taken(FIVE, 5);
        Due.flaw(FIVE + "ass 1 1;", FIVE.length(), 5);
        TownBand x = Due.told("cock 1 9;cat 2 8;hound 3 7;ass 4 6;cock 5 5;");
        for (int b = 0; b < 5; b++) {
            Due.is("WEIGHT by order", x.beast(b, 1), b + 1);
            Due.is("VOICE by order", x.beast(b, 2), 9 - b);
        }
        Due.is("the 6th", x.beast(5, 0), Due.BAD);
        Due.is("ahead of the first", x.beast(-1, 0), Due.BAD);
    }

    static void terms_kindsWeightsVoices() {
        Due.says("Terms", "each of a KIND (0 cock, 1 cat, 2 hound, 3 ass), with a WEIGHT (1 to 9), a VOICE (0 to 9).");
        TownBand x = Due.told("cock 1 0;cat 9 9;hound 1 0;ass 9 9;");
        for (int b = 0; b < 4; b++) {
            Due.is("KIND", x.beast(b, 0), b);
            Due.is("WEIGHT", x.beast(b, 1), b % 2 == 0 ? 1 : 9);
            Due.is("VOICE", x.beast(b, 2), b % 2 == 0 ? 0 : 9);
        }
        Due.flaw("cat 0 0;", 4, 3);
        Due.flaw("cat 10 0;", 4, 3);
        Due.flaw("cat 1 10;", 6, 3);
        int[][] bounds = {{0, 3}, {1, 9}, {0, 9}};
        for (int what = 0; what < 3; what++) {
            Due.isTrue("least " + what, x.alter(0, what, bounds[what][0]) >= 0);
            Due.is("below " + what, x.alter(0, what, bounds[what][0] - 1), Due.BAD);
            Due.isTrue("most " + what, x.alter(0, what, bounds[what][1]) >= 0);
            Due.is("above " + what, x.alter(0, what, bounds[what][1] + 1), Due.BAD);
            Due.is("most stays " + what, x.beast(0, what), bounds[what][1]);
        }
    }

    static void terms_robbersFourAtMost() {
        Due.says("Terms", "ROBBERS (4 at most), by order, each of a COURAGE (0 to 99).");
        String four = "robber 0;robber 99;robber 1;robber 98;";
        Due.taken(four, 4);
        Due.flaw(four + "robber 1;", four.length(), 5);
        TownBand x = Due.told(four);
        int[] want = {0, 99, 1, 98};
        for (int r = 0; r < 4; r++) {
            Due.is("COURAGE by order", x.robber(r), want[r]);
        }
        Due.is("the 5th", x.robber(4), Due.BAD);
        // a COURAGE of 100 has three figures: it is no NUMBER
        Due.flaw("robber 100;", 7, 1);
        Due.is("above", x.steel(0, 100), Due.BAD);
        Due.is("below", x.steel(0, -1), Due.BAD);
    }

    static void terms_towerNobodyAtFirst() {
        Due.says("Terms", "THE TOWER: some BEASTS, each once, from the lowest one up (nobody at first).");
        TownBand x = new TownBand();
        Due.is("nobody in a new object", x.rule(2), 0);
        Due.feed(x, FIVE);
        x.text();
        Due.is("nobody behind a text without one", x.rule(2), 0);
        Due.is("at(0, 0)", x.at(0, 0), Due.BAD);
        int[] row = {3, 0, 4, 1, 2};
        for (int i = 0; i < 5; i++) {
            Due.is("one more", x.climb(row[i]), i + 1);
        }
        for (int i = 0; i < 5; i++) {
            Due.is("from the lowest one up", x.at(0, i), row[i]);
            Due.is("each once", x.climb(i), Due.STATE);
        }
        Due.flaw(FIVE + "tower 1 1;", FIVE.length() + 8, 4);
    }

    static void terms_bedsByOrderAtFirst() {
        Due.says("Terms", "BEDS: as many as BEASTS, all BEASTS in them, each once (by order at first).");
        Due.is("no BEDS without BEASTS", new TownBand().at(1, 0), Due.BAD);
        TownBand x = Due.told(FIVE);
        for (int i = 0; i < 5; i++) {
            Due.is("by order", x.at(1, i), i);
            Due.is("its BED", x.beast(i, 6), i);
        }
        Due.is("a 6th", x.at(1, 5), Due.BAD);
        Due.is("of one", Due.told("cat 1 1;").at(1, 0), 0);
        Due.is("a 2nd of one", Due.told("cat 1 1;").at(1, 1), Due.BAD);
        Due.flaw(FIVE + "beds 0 1 2 3 3;", FIVE.length() + 13, 4);
        Due.flaw(FIVE + "beds 0 1 2 3;", FIVE.length() + 13, 7);
    }

    static void terms_scoutFiveAtFirst() {
        Due.says("Terms", "SCOUT: his COURAGE (0 to 40; 5 at first).");
        TownBand x = new TownBand();
        Due.is("at first", x.rule(3), 5);
        Due.is("below", x.scout(-1), Due.BAD);
        Due.is("above", x.scout(41), Due.BAD);
        Due.is("least", x.scout(0), 5);
        Due.is("most", x.scout(40), 0);
        Due.taken("scout 0;", 1);
        Due.taken("scout 40;", 1);
        Due.flaw("scout 41;", 6, 3);
        Due.is("at first behind a text without one", Due.told("cat 1 1;").rule(3), 5);
    }

    static void terms_byKindANumberBecomes() {
        Due.says("Terms", "By KIND a number becomes: cock: itself; cat: 1 more; hound: twice that of a cat; "
            + "ass: 3 more than that of a hound. BEARS: that of its WEIGHT. HURTS: that of 1.");
        TownBand x = Due.told("cock 1 0;cat 1 0;hound 1 0;ass 1 0;");
        int[] ofOne = {1, 2, 4, 7};
        int[] ofNine = {9, 10, 20, 23};
        for (int b = 0; b < 4; b++) {
            Due.is("BEARS by WEIGHT 1", x.beast(b, 3), ofOne[b]);
            Due.is("HURTS", x.beast(b, 4), ofOne[b]);
            x.alter(b, 1, 9);
            Due.is("BEARS by WEIGHT 9", x.beast(b, 3), ofNine[b]);
            Due.is("HURTS by WEIGHT 9", x.beast(b, 4), ofOne[b]);
        }
    }

    // ---- the second block: towers, flight, the scout, orders, sheets

    static void terms_aTowerStands() {
        Due.says("Terms", "2 A TOWER STANDS, if each in it BEARS no less than all above it weigh.");
        Due.taken("cock 3 0;cock 3 0;tower 0 1;", 3);
        Due.flaw("cock 3 0;cock 4 0;tower 0 1;", 28, 8);
        // the lowest one bears 5 just so, the one above it 2
        Due.taken("cock 5 0;cock 3 0;cock 2 0;tower 0 1 2;", 4);
        Due.flaw("cock 4 0;cock 3 0;cock 2 0;tower 0 1 2;", 39, 8);
        Due.flaw("cock 9 0;cock 1 0;cock 2 0;tower 0 1 2;", 39, 8);
        Due.taken("tower;", 1);
        Due.taken("cock 1 0;tower 0;", 2);
        // 23 just so: 9, 9, 5 upon an ass of 9
        Due.taken("ass 9 0;ass 9 0;ass 9 0;cock 5 0;tower 0 1 2 3;", 5);
        Due.flaw("ass 9 0;ass 9 0;ass 9 0;cock 6 0;tower 0 1 2 3;", 47, 8);
    }

    static void terms_noiseByPlaces() {
        Due.says("Terms", "NOISE: of each in it VOICE times its place (1 the lowest one), summed.");
        Due.is("of nobody", Due.told(FIVE).noise(), 0);
        Due.is("of one", Due.told("cat 1 9;tower 0;").noise(), 9);
        Due.is("of five", Due.told(FIVE + "tower 0 1 2 3 4;").noise(), 15);
        Due.is("the most there can be",
            Due.told("ass 1 9;ass 1 9;ass 1 9;ass 1 9;ass 1 9;tower 0 1 2 3 4;").noise(), 135);
        Due.is("the least of five",
            Due.told("ass 1 0;ass 1 0;ass 1 0;ass 1 0;ass 1 0;tower 0 1 2 3 4;").noise(), 0);
    }

    static void terms_flightMoreThanHisCourage() {
        Due.says("Terms", "FLIGHT: ROBBERS by order: one flees, if NOISE, and 2 for each who has fled already, "
            + "is more than his COURAGE.");
        Due.is("NOISE alike", Due.told("cat 1 5;tower 0;robber 5;").flight(0), 0);
        Due.is("NOISE 1 more", Due.told("cat 1 5;tower 0;robber 4;").flight(0), 1);
        Due.is("2 more alike", Due.told("cat 1 5;tower 0;robber 4;robber 7;").flight(0), 1);
        Due.is("2 more is more", Due.told("cat 1 5;tower 0;robber 4;robber 6;").flight(0), 3);
        Due.is("6 more is more", Due.told("cat 1 5;tower 0;robber 0;robber 0;robber 0;robber 10;").flight(0), 15);
        Due.is("6 more alike", Due.told("cat 1 5;tower 0;robber 0;robber 0;robber 0;robber 11;").flight(0), 7);
        Due.is("who stays adds nothing", Due.told("cat 1 5;tower 0;robber 5;robber 5;").flight(0), 0);
        Due.is("who comes behind adds nothing", Due.told("cat 1 5;tower 0;robber 6;robber 4;").flight(0), 2);
        Due.is("no NOISE, no COURAGE", Due.told("cat 1 0;tower 0;robber 0;").flight(0), 0);
        Due.is("no ROBBERS", Due.told("cat 1 9;tower 0;").flight(0), 0);
    }

    static void terms_theScoutGoesOn() {
        Due.says("Terms", "THE SCOUT meets BEDS by order, each hurts him by what its BEAST HURTS; "
            + "he goes on as long as all HURT is no more than SCOUT.");
        TownBand x = Due.told("ass 1 1;cat 1 1;cock 1 1;");
        x.scout(6);
        Due.is("7 is more than 6", x.tale(1), 1);
        x.scout(7);
        Due.is("7 is no more than 7", x.tale(1), 2);
        Due.is("HURT by two", x.tale(0), 9);
        x.scout(8);
        Due.is("9 is more than 8", x.tale(1), 2);
        x.scout(9);
        Due.is("9 is no more than 9", x.tale(1), 3);
        x.scout(0);
        Due.is("not HURT yet", x.tale(1), 1);
        x.swap(0, 2);
        Due.is("by order", x.tale(0), 1);
    }

    static void terms_valueOfSome() {
        Due.says("Terms", "VALUE of some BEASTS: how many ROBBERS flee at most by a TOWER of some of these.");
        TownBand x = Due.told("cock 1 9;cock 1 9;cock 1 9;robber 8;robber 28;");
        Due.is("of nobody", x.value(0), 0);
        Due.is("of one", x.value(4), 1);
        Due.is("of two: 27, and 2", x.value(3), 2);
        Due.is("of three, of whom two stand", x.value(7), 2);
        x.steel(1, 29);
        Due.is("29 is not more than 29", x.value(7), 1);
    }

    static void terms_shareOfOne() {
        Due.says("Terms", "SHARE of one: they come one behind another, in each order alike: "
            + "the mean of what VALUE grows by it.");
        TownBand x = Due.told("cock 1 9;cock 1 9;cock 1 9;robber 8;robber 28;");
        for (int b = 0; b < 3; b++) {
            Due.is("three alike share 2", x.share(b, 0), 2);
            Due.is("three alike share 2 by", x.share(b, 1), 3);
        }
        TownBand alone = Due.told("cat 1 9;robber 0;robber 0;robber 0;robber 0;");
        Due.is("one alone has all", alone.share(0, 0), 4);
        Due.is("one alone has all by", alone.share(0, 1), 1);
    }

    static void terms_seenSix() {
        Due.says("Terms", "SEEN (6): behind so many BEDS (1 to 5), by order, all HURT (whether he goes on or not) "
            + "was so much.");
        TownBand x = Due.told("ass 1 1;ass 1 1;ass 1 1;ass 1 1;cock 1 1;scout 0;");
        for (int i = 1; i <= 6; i++) {
            Due.is("the " + i + ". one", x.see(5, 29), i);
        }
        Due.is("the 7th", x.see(5, 29), Due.FULL);
        Due.is("all HURT, though he goes on not", x.fits(0), 120);
        x.forget(0);
        x.see(1, 1);
        Due.is("behind 1 BED", x.fits(0), 24);
        Due.is("the first BED by order", x.fits(10), 16);
        x.forget(0);
        Due.is("behind 0 BEDS", x.see(0, 0), Due.BAD);
        Due.is("behind 6 BEDS", x.see(6, 0), Due.BAD);
    }

    static void terms_ordersFit() {
        Due.says("Terms", "ORDERS of BEDS FIT, if by them all would be as SEEN (of more BEDS than there are: none).");
        TownBand x = Due.told("ass 1 1;cat 1 1;");
        Due.is("nothing SEEN", x.fits(0), 2);
        x.see(2, 9);
        Due.is("of as many BEDS as there are", x.fits(0), 2);
        x.see(1, 2);
        Due.is("all as SEEN", x.fits(0), 1);
        x.see(1, 7);
        Due.is("not all as SEEN", x.fits(0), 0);
        x.forget(1);
        x.see(3, 9);
        Due.is("of one more BED than there are", x.fits(0), 0);
        TownBand none = new TownBand();
        Due.is("no BEDS, nothing SEEN", none.fits(0), 1);
        none.see(1, 0);
        Due.is("of 1 BED, where there are none", none.fits(0), 0);
    }

    static void terms_sheetsOfThreeLanes() {
        Due.says("Terms", "SHEETS 0 to 3 are rows of BYTES (lane 0), SHORTS (1), INTS (2) with 0 to 40 CELLS, "
            + "or nothing (at first).");
        TownBand x = new TownBand();
        int[] most = {127, 32767, Due.MOST};
        for (int k = 0; k < 4; k++) {
            Due.is("nothing at first", x.lay(k, 0, 0), -11);
            for (int lane = 0; lane < 3; lane++) {
                Due.is("0 CELLS", x.sheet(k, lane, 0), 1);
                Due.is("no CELL 0", x.lay(k, 0, 0), -12);
                Due.is("40 CELLS", x.sheet(k, lane, 40), 1);
                Due.is("CELL 39", x.lay(k, 39, most[lane]), 1);
                Due.is("no CELL 40", x.lay(k, 40, 0), -12);
            }
        }
        for (int k = -1; k <= 4; k += 5) {
            Due.is("no such SHEET", x.sheet(k, 0, 1), Due.BAD);
        }
        for (int lane = -1; lane <= 3; lane += 4) {
            Due.is("no such lane", x.sheet(0, lane, 1), Due.BAD);
        }
    }

    static void terms_aFaultIsWhatTheMachineFinds() {
        Due.says("Terms", "A FAULT is what the machine finds: 1 NULL (nothing), 2 INDEX, 3 CAST (another lane), "
            + "4 SIZE (below 0).");
        TownBand x = Due.told("cat 1 1;");
        x.read(0, 0, 0, 1);
        Due.is("NULL", x.torn(), 1);
        x.sheet(0, 0, 1);
        x.read(0, 0, 1, 1);
        Due.is("INDEX", x.torn(), 2);
        x.read(0, 1, 0, 1);
        Due.is("CAST", x.torn(), 3);
        Due.is("SIZE", x.sheet(0, 0, -1), -10 - 4);
    }
}
