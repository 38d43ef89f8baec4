/** Promises 1 to 5 (a new object, feed, end, text, fault): each bound by the sentence that tells it. */
public final class Promises1To5Test {
    public static void main(String[] args) throws Exception {
        Due.runAll(Promises1To5Test.class);
    }

    static void promise1_noBeastsNoRobbers() {
        Due.says("Promise 1", "No BEASTS, no ROBBERS;");
        TownBand x = new TownBand();
        Due.is("BEASTS", x.rule(0), 0);
        Due.is("ROBBERS", x.rule(1), 0);
        for (int what = 0; what <= 6; what++) {
            Due.is("beast(0, " + what + ")", x.beast(0, what), Due.BAD);
        }
        Due.is("robber(0)", x.robber(0), Due.BAD);
        Due.is("steel(0, 0)", x.steel(0, 0), Due.BAD);
        Due.is("alter(0, 0, 0)", x.alter(0, 0, 0), Due.BAD);
        Due.is("climb(0)", x.climb(0), Due.BAD);
        Due.is("swap(0, 1)", x.swap(0, 1), Due.BAD);
        Due.is("value(0)", x.value(0), 0);
        Due.is("value(1)", x.value(1), Due.BAD);
        Due.is("share(0, 0)", x.share(0, 0), Due.BAD);
        Due.is("all WEIGHT", x.count(4), 0);
        Due.is("all COURAGE", x.count(5), 0);
        Due.is("SEEN", x.count(0), 0);
        Due.is("IMAGES", x.count(1), 0);
        Due.is("bytes", x.count(2), 0);
    }

    static void promise1_sheetsHaveNothing() {
        Due.says("Promise 1", "SHEETS have nothing.");
        TownBand x = new TownBand();
        Due.is("CELLS of SHEET 0", x.count(3), Due.NONE);
        for (int k = 0; k < 4; k++) {
            Due.is("lay", x.lay(k, 0, 0), -11);
            for (int lane = 0; lane < 3; lane++) {
                Due.is("read", x.read(k, lane, 0, 1), 0);
                Due.is("torn", x.torn(), 1);
                x.read(k, lane, 0, 0);
                Due.is("torn of none", x.torn(), 0);
            }
        }
    }

    static void promise2_aByteOf0To127() {
        Due.says("Promise 2", "A byte (0 to 127) comes behind THE TAPE: how many it has.");
        TownBand x = new TownBand();
        Due.is("least", x.feed(0), 1);
        Due.is("most", x.feed(127), 2);
        Due.is("the first one", x.text(), -10);
        Due.is("from 1 again", x.feed('c'), 1);
        Due.feed(x, "at 1 1");
        Due.is("behind", x.feed(';'), 8);
        Due.is("as they came", x.text(), 1);
    }

    static void promise2_bad() {
        Due.says("Promise 2", "BAD;");
        TownBand x = new TownBand();
        int[] bad = {-1, 128, 256 + 'c', Due.LEAST, Due.MOST};
        x.feed(' ');
        for (int c : bad) {
            Due.is("feed(" + c + ")", x.feed(c), Due.BAD);
            Due.is("bytes", x.count(2), 1);
        }
        Due.is("still a blank", x.text(), 0);
    }

    static void promise2_fullMoreThan160() {
        Due.says("Promise 2", "FULL: more than 160.");
        TownBand x = new TownBand();
        Due.feed(x, " ".repeat(149) + "robber 12");
        Due.is("158", x.count(2), 158);
        Due.is("159th", x.feed(';'), 159);
        Due.is("160th", x.feed(' '), 160);
        Due.is("161st", x.feed('!'), Due.FULL);
        Due.is("still 160", x.count(2), 160);
        Due.is("room again", x.end(159), 160);
        Due.is("160th again", x.feed(' '), 160);
        Due.is("161st again", x.feed('!'), Due.FULL);
        Due.is("what is refused is not there", x.text(), 1);
        Due.is("its ROBBER", x.robber(0), 12);
    }

    static void promise3_keepsItsFirstBytes() {
        Due.says("Promise 3", "THE TAPE keeps its first n bytes: how many it had.");
        TownBand x = new TownBand();
        Due.is("none of none", x.end(0), 0);
        Due.feed(x, "robber 12;robber 3;");
        Due.is("all", x.end(19), 19);
        Due.is("still all", x.count(2), 19);
        Due.is("the first 8", x.end(8), 19);
        Due.is("8 then", x.count(2), 8);
        Due.is("behind these", x.feed(';'), 9);
        Due.is("a line", x.text(), 1);
        Due.is("its ROBBER", x.robber(0), 1);
        Due.is("no 2nd one", x.rule(1), 1);
        Due.feed(x, " ".repeat(160));
        Due.is("none of 160", x.end(0), 160);
        Due.is("none then", x.count(2), 0);
    }

    static void promise3_bad() {
        Due.says("Promise 3", "BAD.");
        TownBand x = new TownBand();
        Due.is("1 of none", x.end(1), Due.BAD);
        Due.is("-1 of none", x.end(-1), Due.BAD);
        Due.feed(x, "robber 1;");
        int[] bad = {-1, 10, 160, 161, Due.LEAST, Due.MOST};
        for (int n : bad) {
            Due.is("end(" + n + ")", x.end(n), Due.BAD);
            Due.is("bytes", x.count(2), 9);
        }
        Due.feed(x, " ".repeat(151));
        Due.is("161 of 160", x.end(161), Due.BAD);
        Due.is("160 of 160", x.end(160), 160);
        Due.is("all is there", x.text(), 1);
    }

    static void promise4_howManyLines() {
        Due.says("Promise 4", "THE TAPE (empty then) tells all: how many lines;");
        TownBand x = new TownBand();
        Due.is("an empty one", x.text(), 0);
        Due.feed(x, "ass 9 1;".repeat(5) + "robber 1;".repeat(4) + "scout 5;tower;beds 4 3 2 1 0;");
        Due.is("the most lines that there can be", x.text(), 12);
        Due.is("empty then", x.count(2), 0);
        Due.is("BEASTS", x.rule(0), 5);
        Due.feed(x, "robber 1");
        Due.is("a FAULT", x.text(), -18);
        Due.is("empty then, too", x.count(2), 0);
        Due.is("an empty one tells that there is nothing", x.text(), 0);
        Due.is("no BEASTS", x.rule(0), 0);
        Due.feed(x, "cat 1 1;" + " ".repeat(152));
        Due.is("a full one", x.text(), 1);
    }

    static void promise4_thePlaceOfItsFault() {
        Due.says("Promise 4", "-10 less the place of its FAULT: that which was told stays.");
        TownBand x = Due.told("hound 3 4;robber 7;scout 8;tower 0;");
        String[] flaws = {"!", "cat 0", "cat 1 1", "", "cock 1 1;ass 9 1;tower 0 1;"};
        flaws[3] = " ".repeat(159) + "!";
        int[] places = {0, 4, 7, 159, 27};
        int[] faults = {1, 3, 2, 1, 8};
        for (int i = 0; i < flaws.length; i++) {
            Due.feed(x, flaws[i]);
            Due.is("text of " + flaws[i], x.text(), -10 - places[i]);
            Due.is("fault of " + flaws[i], x.fault(), faults[i]);
            Due.is("BEASTS", x.rule(0), 1);
            Due.is("KIND", x.beast(0, 0), 2);
            Due.is("WEIGHT", x.beast(0, 1), 3);
            Due.is("VOICE", x.beast(0, 2), 4);
            Due.is("COURAGE", x.robber(0), 7);
            Due.is("SCOUT", x.rule(3), 8);
            Due.is("THE TOWER", x.rule(4), 1);
        }
        TownBand full = new TownBand();
        Due.feed(full, " ".repeat(157) + "cat");
        Due.is("behind all of 160", full.text(), -170);
    }

    static void promise5_ofTheLatestText() {
        Due.says("Promise 5", "The FAULT of the latest text(); 0.");
        TownBand x = new TownBand();
        Due.is("there was none", x.fault(), 0);
        String[] flaws = {"!", "cat", "cat 0", "beds;beds", "robber 1;".repeat(4) + "robber", "tower 0;",
            "cat 1 1;beds;", "cock 1 1;cock 2 1;tower 0 1;"};
        for (int i = 0; i < flaws.length; i++) {
            Due.feed(x, flaws[i]);
            Due.is("not before text()", x.fault(), i);
            x.text();
            Due.is("of " + flaws[i], x.fault(), i + 1);
            Due.is("asked again", x.fault(), i + 1);
        }
        x.feed('!');
        x.feed(128);
        x.end(0);
        Due.is("it stays", x.fault(), 8);
        x.text();
        Due.is("of one that is taken", x.fault(), 0);
    }
}
