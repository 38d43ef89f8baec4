/** Promises 38 to 41: sheet, lay, read, torn. */
public final class SheetTest {
    public static void main(String[] args) {
        sheets();
        laying();
        reading();
        refusedByTheMachine();
        refusedByClimbing();
        nothingRead();
        Due.finish();
    }

    private static void sheets() {
        TownBand x = new TownBand();
        Due.is("sheet(-1, 0, 1)", x.sheet(-1, 0, 1), Due.BAD);
        Due.is("sheet(4, 0, 1)", x.sheet(4, 0, 1), Due.BAD);
        Due.is("sheet(0, -1, 1)", x.sheet(0, -1, 1), Due.BAD);
        Due.is("sheet(0, 3, 1)", x.sheet(0, 3, 1), Due.BAD);
        Due.is("sheet(0, 0, 41)", x.sheet(0, 0, 41), Due.BAD);
        Due.is("sheet(0, 0, -1)", x.sheet(0, 0, -1), -14);
        Due.is("sheet(0, 0, least)", x.sheet(0, 0, Integer.MIN_VALUE), -14);
        Due.is("sheet(4, 0, -1)", x.sheet(4, 0, -1), Due.BAD);
        Due.is("sheet(0, 3, -1)", x.sheet(0, 3, -1), Due.BAD);
        Due.is("still nothing", x.count(3), Due.NONE);
        Due.is("sheet(0, 0, 40)", x.sheet(0, 0, 40), 1);
        Due.is("refused", x.sheet(0, 1, -1), -14);
        Due.is("it stays", x.count(3), 40);
        Due.is("sheet(0, 2, 0)", x.sheet(0, 2, 0), 1);
        Due.is("sheet(3, 2, 1)", x.sheet(3, 2, 1), 1);
        Due.is("lay(3, 0, 1)", x.lay(3, 0, 1), 1);
        Due.is("anew", x.count(3), 0);
    }

    private static void laying() {
        TownBand x = new TownBand();
        Due.is("lay(-1, 0, 0)", x.lay(-1, 0, 0), Due.BAD);
        Due.is("lay(4, 0, 0)", x.lay(4, 0, 0), Due.BAD);
        Due.is("nothing", x.lay(0, 0, 0), -11);
        Due.is("nothing, and no such cell", x.lay(0, -1, 0), -11);
        x.sheet(0, 0, 2);
        Due.is("lay(0, -1, 0)", x.lay(0, -1, 0), -12);
        Due.is("lay(0, 2, 0)", x.lay(0, 2, 0), -12);
        Due.is("lay(0, 1, 0)", x.lay(0, 1, 0), 1);
        x.sheet(0, 0, 0);
        Due.is("of no cells", x.lay(0, 0, 0), -12);
        Due.is("torn() is of read()", x.torn(), 0);
    }

    private static void reading() {
        TownBand x = Due.told("ass 9 1;hound 5 2;cat 2 3;");
        int[] bits = {8, 16, 32};
        for (int lane = 0; lane < 3; lane++) {
            x.down(0);
            x.sheet(lane, lane, 4);
            Due.is("cells are 0", x.read(lane, lane, 3, 1), 1);
            Due.is("beast 0 is in it", x.rule(4), 1);
            // the lowest bits alone
            int high = bits[lane] < 32 ? 1 << bits[lane] : 0;
            x.lay(lane, 1, 1 + high);
            x.lay(lane, 2, 2 - high);
            Due.is("two more", x.read(lane, lane, 1, 2), 2);
            Due.is("all are in it", x.rule(4), 7);
            Due.is("the highest one", x.at(0, 2), 2);
            Due.is("torn()", x.torn(), 0);
            x.lay(lane, 0, high == 0 ? Integer.MIN_VALUE : high >> 1);
            x.down(0);
            Due.is("below 0", x.read(lane, lane, 0, 1), -20);
            x.sheet(lane, lane, 4);
            Due.is("cells are 0 again", x.read(lane, lane, 0, 1), 1);
        }
        Due.is("read(-1, ..)", x.read(-1, 0, 0, 1), Due.BAD);
        Due.is("read(4, ..)", x.read(4, 0, 0, 1), Due.BAD);
        Due.is("lane -1", x.read(0, -1, 0, 1), Due.BAD);
        Due.is("lane 3", x.read(0, 3, 0, 1), Due.BAD);
        Due.is("n -1", x.read(0, 0, 0, -1), Due.BAD);
        Due.is("n 21", x.read(0, 0, 0, 21), Due.BAD);
    }

    private static void refusedByTheMachine() {
        TownBand x = Due.told("ass 9 1;hound 5 2;cat 2 3;");
        Due.is("nothing", x.read(3, 0, 0, 20), 0);
        Due.is("NULL", x.torn(), 1);
        x.sheet(0, 1, 3);
        x.lay(0, 1, 1);
        x.lay(0, 2, 2);
        Due.is("another lane", x.read(0, 2, 0, 1), 0);
        Due.is("CAST", x.torn(), 3);
        Due.is("another lane and no such cell", x.read(0, 0, 9, 1), 0);
        Due.is("CAST comes first", x.torn(), 3);
        Due.is("all and one more", x.read(0, 1, 0, 4), 3);
        Due.is("INDEX", x.torn(), 2);
        Due.is("those ahead climbed", x.rule(4), 7);
        Due.is("BAD", x.read(0, 1, 0, 21), Due.BAD);
        Due.is("it came to no end", x.torn(), 2);
        Due.is("refused by climb()", x.read(0, 1, 0, 1), -20);
        Due.is("this neither", x.torn(), 2);
        Due.is("no such cell", x.read(0, 1, 3, 1), 0);
        Due.is("INDEX still", x.torn(), 2);
        x.down(0);
        Due.is("well read", x.read(0, 1, 0, 3), 3);
        Due.is("0 then", x.torn(), 0);
        int[] places = {-1, 3, Integer.MAX_VALUE, Integer.MIN_VALUE};
        for (int f : places) {
            x.down(0);
            x.read(0, 1, 0, 0);
            Due.is("from " + f, x.read(0, 1, f, 20), 0);
            Due.is("INDEX from " + f, x.torn(), 2);
        }
    }

    private static void refusedByClimbing() {
        TownBand x = Due.told("ass 9 1;hound 5 2;cock 2 3;");
        x.sheet(0, 2, 5);
        int[] cells = {1, 2, 0, 3, 1};
        for (int i = 0; i < cells.length; i++) {
            x.lay(0, i, cells[i]);
        }
        x.climb(0);
        Due.is("the third one is in it", x.read(0, 2, 0, 3), -22);
        Due.is("then none did", x.rule(4), 1);
        Due.is("no such beast", x.read(0, 2, 3, 1), -20);
        x.down(0);
        Due.is("it would not stand", x.read(0, 2, 1, 2), -21);
        Due.is("nobody is in it", x.rule(2), 0);
        Due.is("climb() is met before the end of cells", x.read(0, 2, 3, 3), -20);
        Due.is("torn()", x.torn(), 0);
    }

    /** Where n is 0 there is nothing that the machine refuses: torn() is 0, whatever it was. */
    private static void nothingRead() {
        TownBand x = Due.told("ass 9 1;");
        x.sheet(0, 1, 1);
        x.sheet(2, 0, 0);
        noneOf(x, "of cells that are there", 0, 1, 0);
        int[] places = {-1, 1, 9, Integer.MAX_VALUE, Integer.MIN_VALUE};
        for (int f : places) {
            noneOf(x, "of no such cell " + f, 0, 1, f);
            noneOf(x, "of another lane, no such cell " + f, 0, 2, f);
        }
        noneOf(x, "of another lane", 0, 0, 0);
        noneOf(x, "of no cells", 2, 0, 0);
        noneOf(x, "of no cells of another lane", 2, 1, 0);
        for (int lane = 0; lane < 3; lane++) {
            noneOf(x, "of nothing as of lane " + lane, 3, lane, 0);
        }
    }

    private static void noneOf(TownBand x, String of, int k, int lane, int f) {
        x.read(0, 1, 1, 1);
        Due.is("torn ahead of none " + of, x.torn(), 2);
        Due.is("none " + of, x.read(k, lane, f, 0), 0);
        Due.is("no fault " + of, x.torn(), 0);
    }
}
