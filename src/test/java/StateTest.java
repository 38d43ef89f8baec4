/** Promises 6 to 15, 36, 37, 42: what there is, what is changed, images, count. */
public final class StateTest {
    private static final String TALE =
        "ass 9 4;hound 6 6;cat 3 7;cock 2 9;robber 20;robber 44;robber 70;scout 6;tower 0 1;beds 3 1 0 2;";

    public static void main(String[] args) {
        rules();
        beasts();
        robbers();
        rows();
        altering();
        steeling();
        scouting();
        climbing();
        goingDown();
        swapping();
        images();
        counting();
        Due.finish();
    }

    private static void rules() {
        TownBand x = Due.told(TALE);
        int[] want = {4, 3, 2, 6, 3};
        for (int i = 0; i < want.length; i++) {
            Due.is("rule " + i, x.rule(i), want[i]);
        }
        Due.is("rule(-1)", x.rule(-1), Due.BAD);
        Due.is("rule(5)", x.rule(5), Due.BAD);
    }

    private static void beasts() {
        TownBand x = Due.told(TALE);
        int[][] want = {
            {3, 9, 4, 23, 7, 0, 2}, {2, 6, 6, 14, 4, 1, 1}, {1, 3, 7, 4, 2, -4, 3}, {0, 2, 9, 2, 1, -4, 0}};
        for (int b = 0; b < 4; b++) {
            for (int what = 0; what < 7; what++) {
                Due.is("beast " + b + " " + what, x.beast(b, what), want[b][what]);
            }
            Due.is("beast -1", x.beast(b, -1), Due.BAD);
            Due.is("beast 7", x.beast(b, 7), Due.BAD);
        }
        Due.is("beast(-1, 0)", x.beast(-1, 0), Due.BAD);
        Due.is("beast(4, 0)", x.beast(4, 0), Due.BAD);
        Due.is("beast of none", new TownBand().beast(0, 0), Due.BAD);
    }

    private static void robbers() {
        TownBand x = Due.told(TALE);
        Due.is("robber(0)", x.robber(0), 20);
        Due.is("robber(1)", x.robber(1), 44);
        Due.is("robber(2)", x.robber(2), 70);
        Due.is("robber(3)", x.robber(3), Due.BAD);
        Due.is("robber(-1)", x.robber(-1), Due.BAD);
    }

    private static void rows() {
        TownBand x = Due.told(TALE);
        Due.is("at(0, 1)", x.at(0, 1), 1);
        Due.is("at(0, 2)", x.at(0, 2), Due.BAD);
        Due.is("at(0, -1)", x.at(0, -1), Due.BAD);
        Due.is("at(1, 0)", x.at(1, 0), 3);
        Due.is("at(1, 3)", x.at(1, 3), 2);
        Due.is("at(1, 4)", x.at(1, 4), Due.BAD);
        Due.is("at(1, -1)", x.at(1, -1), Due.BAD);
        Due.is("at(2, 0)", x.at(2, 0), Due.BAD);
        Due.is("at(-1, 0)", x.at(-1, 0), Due.BAD);
    }

    private static void altering() {
        TownBand x = Due.told(TALE);
        int[][] bad = {{-1, 0, 0}, {4, 0, 0}, {0, -1, 1}, {0, 3, 1}, {0, 0, -1}, {0, 0, 4},
            {0, 1, 0}, {0, 1, 10}, {0, 2, -1}, {0, 2, 10}};
        for (int[] a : bad) {
            Due.is("alter bad", x.alter(a[0], a[1], a[2]), Due.BAD);
        }
        Due.is("alter kind", x.alter(3, 0, 3), 0);
        Due.is("kind then", x.beast(3, 0), 3);
        Due.is("alter weight", x.alter(3, 1, 9), 2);
        Due.is("weight then", x.beast(3, 1), 9);
        Due.is("alter voice", x.alter(3, 2, 0), 9);
        Due.is("voice then", x.beast(3, 2), 0);
        // the ass as a cock bears 9, and the hound above weighs 6
        Due.is("alter to a cock", x.alter(0, 0, 0), 3);
        Due.is("alter to 6", x.alter(0, 1, 6), 9);
        Due.is("alter to 5", x.alter(0, 1, 5), Due.STATE);
        Due.is("weight stays", x.beast(0, 1), 6);
        Due.is("hound to 7", x.alter(1, 1, 7), Due.STATE);
        Due.is("hound stays", x.beast(1, 1), 6);
        Due.is("as a cat", x.alter(0, 0, 1), 0);
        Due.is("hound to 7 then", x.alter(1, 1, 7), 6);
        Due.is("as a cock no more", x.alter(0, 0, 0), Due.STATE);
        Due.is("kind stays", x.beast(0, 0), 1);
    }

    private static void steeling() {
        TownBand x = Due.told(TALE);
        Due.is("steel(3, 1)", x.steel(3, 1), Due.BAD);
        Due.is("steel(-1, 1)", x.steel(-1, 1), Due.BAD);
        Due.is("steel(0, -1)", x.steel(0, -1), Due.BAD);
        Due.is("steel(0, 100)", x.steel(0, 100), Due.BAD);
        Due.is("steel(0, 99)", x.steel(0, 99), 20);
        Due.is("steel(0, 0)", x.steel(0, 0), 99);
        Due.is("robber(0)", x.robber(0), 0);
        Due.is("robber(1)", x.robber(1), 44);
    }

    private static void scouting() {
        TownBand x = new TownBand();
        Due.is("scout(-1)", x.scout(-1), Due.BAD);
        Due.is("scout(41)", x.scout(41), Due.BAD);
        Due.is("scout(40)", x.scout(40), 5);
        Due.is("scout(0)", x.scout(0), 40);
        Due.is("rule(3)", x.rule(3), 0);
    }

    private static void climbing() {
        TownBand x = Due.told(TALE);
        Due.is("climb(-1)", x.climb(-1), Due.BAD);
        Due.is("climb(4)", x.climb(4), Due.BAD);
        Due.is("climb(0)", x.climb(0), Due.STATE);
        Due.is("climb(3)", x.climb(3), 3);
        Due.is("climb(2) on the cock", x.climb(2), Due.STATE);
        Due.is("rule(4)", x.rule(4), 11);
        TownBand y = Due.told("cock 5 0;cock 3 0;cock 2 0;cock 1 0;");
        Due.is("first", y.climb(0), 1);
        Due.is("second", y.climb(1), 2);
        Due.is("bears just that", y.climb(2), 3);
        Due.is("too much for the lowest one", y.climb(3), Due.STATE);
        Due.is("at(0, 2)", y.at(0, 2), 2);
    }

    private static void goingDown() {
        TownBand x = Due.told(TALE);
        Due.is("down(-1)", x.down(-1), Due.BAD);
        Due.is("down(3)", x.down(3), Due.BAD);
        Due.is("down(2)", x.down(2), 2);
        Due.is("down(1)", x.down(1), 2);
        Due.is("at(0, 0)", x.at(0, 0), 0);
        Due.is("beast(1, 5)", x.beast(1, 5), Due.NONE);
        Due.is("down(0)", x.down(0), 1);
        Due.is("down(0) again", x.down(0), 0);
    }

    private static void swapping() {
        TownBand x = Due.told(TALE);
        Due.is("swap(0, 0)", x.swap(0, 0), Due.BAD);
        Due.is("swap(0, 4)", x.swap(0, 4), Due.BAD);
        Due.is("swap(4, 0)", x.swap(4, 0), Due.BAD);
        Due.is("swap(-1, 0)", x.swap(-1, 0), Due.BAD);
        Due.is("swap(0, -1)", x.swap(0, -1), Due.BAD);
        Due.is("swap(0, 2)", x.swap(0, 2), 0);
        Due.is("at(1, 2)", x.at(1, 2), 3);
        Due.is("beast(3, 6)", x.beast(3, 6), 2);
        Due.is("swap(3, 1)", x.swap(3, 1), 1);
        Due.is("swap(1, 0)", x.swap(1, 0), 0);
        Due.is("at(1, 0)", x.at(1, 0), 2);
    }

    private static void images() {
        TownBand x = Due.told(TALE);
        Due.is("keep(-1)", x.keep(-1), Due.BAD);
        Due.is("keep(2)", x.keep(2), Due.BAD);
        Due.is("back(-1)", x.back(-1), Due.BAD);
        Due.is("back(2)", x.back(2), Due.BAD);
        Due.is("back(0) of none", x.back(0), Due.STATE);
        Due.is("keep(0)", x.keep(0), 0);
        Due.is("back(1) of none", x.back(1), Due.STATE);
        x.climb(3);
        x.alter(2, 0, 0);
        x.alter(2, 1, 1);
        x.alter(2, 2, 1);
        x.steel(2, 1);
        x.scout(1);
        x.swap(0, 1);
        x.see(1, 1);
        Due.is("keep(1)", x.keep(1), 0);
        Due.is("count(1)", x.count(1), 2);
        Due.is("back(0)", x.back(0), 2);
        Due.is("tower", x.rule(4), 3);
        Due.is("kind", x.beast(2, 0), 1);
        Due.is("weight", x.beast(2, 1), 3);
        Due.is("voice", x.beast(2, 2), 7);
        Due.is("robber", x.robber(2), 70);
        Due.is("scout", x.rule(3), 6);
        Due.is("bed", x.at(1, 0), 3);
        Due.is("seen stays", x.count(0), 1);
        Due.is("back(1)", x.back(1), 3);
        Due.is("kind 1", x.beast(2, 0), 0);
        Due.is("weight 1", x.beast(2, 1), 1);
        Due.is("voice 1", x.beast(2, 2), 1);
        Due.is("robber 1", x.robber(2), 1);
        Due.is("scout 1", x.rule(3), 1);
        Due.is("bed 1", x.at(1, 0), 1);
        // an image is a copy: what changes behind it does not change it
        x.steel(0, 3);
        Due.is("back(1) again", x.back(1), 3);
        Due.is("robber(0)", x.robber(0), 20);
        Due.is("keep(0) again", x.keep(0), 1);
        Due.is("back(0) again", x.back(0), 3);
    }

    private static void counting() {
        TownBand x = Due.told(TALE);
        Due.is("count(-1)", x.count(-1), Due.BAD);
        Due.is("count(6)", x.count(6), Due.BAD);
        Due.is("count(0)", x.count(0), 0);
        x.see(1, 1);
        Due.is("count(0) then", x.count(0), 1);
        x.keep(1);
        Due.is("count(1)", x.count(1), 1);
        x.feed(32);
        Due.is("count(2)", x.count(2), 1);
        Due.is("count(3)", x.count(3), Due.NONE);
        x.sheet(1, 0, 7);
        Due.is("count(3) of another", x.count(3), Due.NONE);
        x.sheet(0, 0, 0);
        Due.is("count(3) empty", x.count(3), 0);
        x.sheet(0, 0, 40);
        Due.is("count(3) full", x.count(3), 40);
        Due.is("count(4)", x.count(4), 20);
        Due.is("count(5)", x.count(5), 134);
        Due.feed(x, "cat 2 1;robber 8;");
        x.text();
        Due.is("count(4) of fewer", x.count(4), 2);
        Due.is("count(5) of fewer", x.count(5), 8);
        TownBand none = new TownBand();
        Due.is("count(4) of none", none.count(4), 0);
        Due.is("count(5) of none", none.count(5), 0);
    }
}
