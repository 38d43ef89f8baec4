/** Promises 16 to 23: noise, flight, free, need, best, few, loud, towers. */
public final class NoiseTest {
    public static void main(String[] args) {
        noises();
        flights();
        climbers();
        needs();
        bestTowers();
        fewest();
        loudest();
        countOfTowers();
        noBeasts();
        Due.finish();
    }

    private static void noises() {
        TownBand x = Due.told("ass 9 4;hound 6 6;cat 3 7;tower 0 2;");
        Due.is("noise()", x.noise(), 4 + 14);
        x.down(1);
        Due.is("noise() of one", x.noise(), 4);
        x.climb(1);
        x.climb(2);
        Due.is("noise() of three", x.noise(), 4 + 12 + 21);
        x.down(0);
        Due.is("noise() of nobody", x.noise(), 0);
    }

    private static void flights() {
        TownBand x = Due.told("ass 9 5;tower 0;robber 5;robber 4;robber 6;robber 8;");
        Due.is("bits", x.flight(0), 0b1110);
        Due.is("how many", x.flight(1), 3);
        x.steel(3, 9);
        Due.is("9 is not more than 9", x.flight(0), 0b0110);
        x.steel(3, 8);
        x.steel(0, 4);
        Due.is("all", x.flight(0), 0b1111);
        Due.is("all of them", x.flight(1), 4);
        x.down(0);
        x.steel(0, 0);
        Due.is("by no noise", x.flight(0), 0);
        Due.is("flight(-1)", x.flight(-1), Due.BAD);
        Due.is("flight(2)", x.flight(2), Due.BAD);
    }

    private static void climbers() {
        TownBand x = Due.told("cock 5 0;cock 3 0;cock 2 0;ass 9 0;cock 6 0;");
        Due.is("free() at first", x.free(), 31);
        x.climb(0);
        Due.is("free() on 5", x.free(), 0b00110);
        x.climb(1);
        Due.is("free() on 3", x.free(), 0b00100);
        x.climb(2);
        Due.is("free() on all", x.free(), 0);
        Due.is("the tower is as it was", x.rule(4), 7);
    }

    private static void needs() {
        Due.is("none", new TownBand().need(), 0);
        Due.is("of 0", Due.told("robber 0;").need(), 1);
        Due.is("of 99", Due.told("robber 99;").need(), 100);
        Due.is("2 less behind one", Due.told("robber 10;robber 14;").need(), 13);
        Due.is("the first one", Due.told("robber 10;robber 12;robber 14;robber 16;").need(), 11);
        Due.is("the last one", Due.told("robber 10;robber 12;robber 14;robber 17;").need(), 12);
        Due.is("far below", Due.told("robber 0;robber 0;robber 0;robber 0;").need(), 1);
    }

    private static void bestTowers() {
        TownBand x = Due.told("ass 9 4;hound 6 6;cat 3 7;cock 2 9;robber 20;robber 44;robber 70;");
        row("best", new int[] {x.best(0), x.best(1), x.best(2)}, 3, 73, 4);
        row("best row", new int[] {x.best(10), x.best(11), x.best(12), x.best(13), x.best(14)}, 0, 1, 2, 3, -4);
        Due.is("best(-1)", x.best(-1), Due.BAD);
        Due.is("best(3)", x.best(3), Due.BAD);
        Due.is("best(9)", x.best(9), Due.BAD);
        Due.is("best(15)", x.best(15), Due.BAD);
        // one alone does it; the first by rows of those that do, though another is louder
        TownBand y = Due.told("ass 9 4;cat 1 6;cat 1 9;robber 5;");
        row("best of one", new int[] {y.best(0), y.best(1), y.best(2), y.best(10), y.best(11)}, 1, 6, 1, 1, -4);
        // nobody flees from anybody: nobody is in it
        TownBand z = Due.told("ass 9 4;robber 99;");
        row("best of nobody", new int[] {z.best(0), z.best(1), z.best(2), z.best(10)}, 0, 0, 0, -4);
        // fewer beasts before fewer robbers never: more flee by two
        TownBand w = Due.told("cock 1 3;cock 1 3;robber 2;robber 6;");
        row("best of two", new int[] {w.best(0), w.best(1), w.best(2), w.best(10), w.best(11)}, 2, 9, 2, 0, 1);
    }

    private static void fewest() {
        TownBand x = Due.told("cat 1 2;cat 1 3;cat 1 3;robber 6;");
        row("few", new int[] {x.few(0), x.few(1), x.few(10), x.few(11), x.few(12)}, 2, 8, 0, 1, -4);
        x.alter(2, 2, 9);
        row("few of one", new int[] {x.few(0), x.few(1), x.few(10), x.few(11)}, 1, 9, 2, -4);
        x.steel(0, 99);
        row("few by none", new int[] {x.few(0), x.few(1), x.few(10), x.few(14)}, -4, -4, -4, -4);
        Due.is("few(-1)", x.few(-1), Due.BAD);
        Due.is("few(2)", x.few(2), Due.BAD);
        Due.is("few(9)", x.few(9), Due.BAD);
        Due.is("few(15)", x.few(15), Due.BAD);
        TownBand y = Due.told("cat 1 9;");
        row("few without robbers", new int[] {y.few(0), y.few(1), y.few(10)}, 0, 0, -4);
    }

    private static void loudest() {
        TownBand x = Due.told("cat 1 2;cat 1 3;cat 1 0;");
        row("loud", new int[] {x.loud(0), x.loud(1)}, 13, 3);
        row("loud row", new int[] {x.loud(10), x.loud(11), x.loud(12), x.loud(13)}, 2, 0, 1, -4);
        x.alter(0, 2, 0);
        x.alter(1, 2, 0);
        row("loud of none", new int[] {x.loud(0), x.loud(1), x.loud(10)}, 0, 0, -4);
        // 2 0 1 comes first by rows and is as loud, but 2 3 are fewer
        TownBand y = Due.told("cat 1 1;cat 1 2;cock 9 4;cock 9 4;");
        row("loud of fewest", new int[] {y.loud(0), y.loud(1), y.loud(10), y.loud(11), y.loud(12)}, 12, 2, 2, 3, -4);
        Due.is("loud(-1)", x.loud(-1), Due.BAD);
        Due.is("loud(2)", x.loud(2), Due.BAD);
        Due.is("loud(9)", x.loud(9), Due.BAD);
        Due.is("loud(15)", x.loud(15), Due.BAD);
    }

    private static void countOfTowers() {
        Due.is("of none", new TownBand().towers(), 1);
        Due.is("of one", Due.told("cock 1 1;").towers(), 2);
        Due.is("of two that bear", Due.told("cock 1 1;cock 1 1;").towers(), 5);
        Due.is("one bears", Due.told("cock 1 1;cock 2 1;").towers(), 4);
        Due.is("all of five", Due.told("ass 1 1;ass 1 1;ass 1 1;ass 1 1;ass 1 1;").towers(), 326);
        TownBand x = Due.told("cock 1 1;cock 1 1;");
        x.towers();
        Due.is("asked again", x.towers(), 5);
        // three cocks of 1: none bears two
        Due.is("at most two", Due.told("cock 1 1;cock 1 1;cock 1 1;").towers(), 10);
    }

    private static void noBeasts() {
        TownBand x = Due.told("robber 1;");
        row("nobody", new int[] {x.noise(), x.flight(1), x.free(), x.best(0), x.best(10), x.loud(0)}, 0, 0, 0, 0, -4, 0);
        Due.is("few of nobody", x.few(0), Due.NONE);
    }

    private static void row(String name, int[] got, int... want) {
        Due.is(name + " length", got.length, want.length);
        for (int i = 0; i < want.length; i++) {
            Due.is(name + " " + i, got[i], want[i]);
        }
    }
}
