/** Promises 16 to 23 (the noise, towers): each bound by the sentence that tells it. */
public final class Promises16To23Test {
    private static final String FIVE = "ass 1 1;ass 1 1;ass 1 1;ass 1 1;ass 1 1;";
    private static final String LOUD_FIVE = "ass 1 9;ass 1 9;ass 1 9;ass 1 9;ass 1 9;";

    public static void main(String[] args) throws Exception {
        Due.runAll(Promises16To23Test.class);
    }

    private static void bad(String name, java.util.function.IntUnaryOperator call, int... bad) {
        for (int what : bad) {
            Due.is(name + "(" + what + ")", call.applyAsInt(what), Due.BAD);
        }
        Due.is(name + "(least)", call.applyAsInt(Due.LEAST), Due.BAD);
        Due.is(name + "(most)", call.applyAsInt(Due.MOST), Due.BAD);
    }

    private static void row(String name, java.util.function.IntUnaryOperator call, int from, int... want) {
        for (int i = 0; i < want.length; i++) {
            Due.is(name + "(" + (from + i) + ")", call.applyAsInt(from + i), want[i]);
        }
    }

    static void promise16_noiseOfTheTower() {
        Due.says("Promise 16", "NOISE of THE TOWER.");
        Due.is("of a new object", new TownBand().noise(), 0);
        TownBand x = Due.told("ass 1 1;ass 1 2;ass 1 4;ass 1 8;ass 1 0;");
        Due.is("of nobody", x.noise(), 0);
        int[] row = {3, 2, 1, 0, 4};
        int[] want = {8, 16, 22, 26, 26};
        for (int i = 0; i < 5; i++) {
            x.climb(row[i]);
            Due.is("of " + (i + 1), x.noise(), want[i]);
        }
        x.alter(4, 2, 9);
        Due.is("the highest one 5 times", x.noise(), 26 + 45);
        x.down(1);
        Due.is("of the lowest one", x.noise(), 8);
    }

    static void promise17_whoFleesHowMany() {
        Due.says("Promise 17", "FLIGHT by NOISE: who flees (what 0; bits), how many (1).");
        TownBand x = Due.told(LOUD_FIVE + "tower 0 1 2 3 4;robber 99;robber 99;robber 99;robber 99;");
        Due.is("all four", x.flight(0), 15);
        Due.is("all four of them", x.flight(1), 4);
        x.down(0);
        Due.is("nobody", x.flight(0), 0);
        Due.is("nobody of them", x.flight(1), 0);
        // 9 * (1 + 2 + 3 + 4) is 90
        x.climb(0);
        x.climb(1);
        x.climb(2);
        x.climb(3);
        x.steel(3, 89);
        Due.is("the last one alone", x.flight(0), 8);
        Due.is("one", x.flight(1), 1);
        x.steel(3, 90);
        Due.is("90 is not more", x.flight(0), 0);
        TownBand none = new TownBand();
        Due.is("no ROBBERS", none.flight(0), 0);
        Due.is("none of them", none.flight(1), 0);
    }

    static void promise17_bad() {
        Due.says("Promise 17", "BAD.");
        bad("flight", Due.told(FIVE)::flight, -1, 2);
        bad("flight", new TownBand()::flight, -1, 2);
    }

    static void promise18_thatCouldClimbNow() {
        Due.says("Promise 18", "BEASTS that could climb now (bits).");
        Due.is("of none", new TownBand().free(), 0);
        Due.is("all, upon nobody", Due.told(FIVE).free(), 31);
        TownBand x = Due.told("cock 5 0;cock 5 0;cock 6 0;cock 3 0;cock 2 0;");
        x.climb(0);
        Due.is("upon 5", x.free(), 0b11010);
        x.climb(3);
        Due.is("upon 3 upon 5", x.free(), 0b10000);
        x.climb(4);
        Due.is("5 bears no more", x.free(), 0);
        for (int b = 0; b < 5; b++) {
            Due.is("so none can", x.climb(b), Due.STATE);
        }
        Due.is("all are in it", Due.told(FIVE + "tower 0 1 2 3 4;").free(), 0);
        Due.is("one is not in it", Due.told(FIVE + "tower 0 1 2 3;").free(), 16);
    }

    static void promise19_theLeastNoise() {
        Due.says("Promise 19", "The least NOISE by which all ROBBERS flee.");
        Due.is("no ROBBERS", new TownBand().need(), 0);
        Due.is("of 0", Due.told("robber 0;").need(), 1);
        Due.is("of 99", Due.told("robber 99;").need(), 100);
        Due.is("the first one decides", Due.told("robber 9;robber 11;robber 13;robber 15;").need(), 10);
        Due.is("the last one decides", Due.told("robber 9;robber 11;robber 13;robber 16;").need(), 11);
        Due.is("2 less behind one", Due.told("robber 0;robber 2;").need(), 1);
        Due.is("2 less, and 1 more", Due.told("robber 0;robber 3;").need(), 2);
        Due.is("the most there can be", Due.told("robber 99;robber 99;robber 99;robber 99;").need(), 100);
        Due.is("the last one of 99", Due.told("robber 0;robber 0;robber 0;robber 99;").need(), 94);
        Due.is("THE TOWER does not matter", Due.told("cat 1 9;tower 0;robber 3;").need(), 4);
    }

    static void promise20_byWhichMostFlee() {
        Due.says("Promise 20", "The TOWER that STANDS by which most flee, of several the one of fewest BEASTS, "
            + "of these the first by rows: how many flee (what 0), its NOISE (1), how many BEASTS (2);");
        row("of a new object", new TownBand()::best, 0, 0, 0, 0);
        row("no ROBBERS", Due.told(LOUD_FIVE)::best, 0, 0, 0, 0);
        row("none flees from any", Due.told(FIVE + "robber 15;")::best, 0, 0, 0, 0);
        row("all five", Due.told(FIVE + "robber 14;")::best, 0, 1, 15, 5);
        row("all four flee", Due.told("cat 1 9;robber 0;robber 0;robber 0;robber 0;")::best, 0, 4, 9, 1);
        // 2 more BEASTS, but one more flees
        row("most before fewest", Due.told("cock 1 3;cock 1 3;robber 2;robber 10;")::best, 0, 2, 9, 2);
        row("fewest of those", Due.told("cock 1 3;cock 1 3;robber 2;robber 11;")::best, 0, 1, 3, 1);
        // both frighten him: not the louder one, but the first
        TownBand x = Due.told("cat 1 1;cat 1 5;cat 1 9;robber 4;");
        row("the first by rows", x::best, 0, 1, 5, 1);
        Due.is("it", x.best(10), 1);
        // 0 1 does not stand
        TownBand y = Due.told("cock 1 4;cock 2 4;robber 11;");
        row("that stands", y::best, 0, 1, 12, 2);
        row("that stands", y::best, 10, 1, 0);
        Due.is("THE TOWER stays", y.rule(2), 0);
    }

    static void promise20_atItsPlace() {
        Due.says("Promise 20", "10 and i: the BEAST at its place i (NONE: not so many).");
        row("nobody", Due.told(FIVE + "robber 15;")::best, 10, -4, -4, -4, -4, -4);
        row("one", Due.told("cat 1 1;cat 1 2;robber 1;")::best, 10, 1, -4, -4, -4, -4);
        row("four", Due.told(FIVE + "robber 9;")::best, 10, 0, 1, 2, 3, -4);
        row("five", Due.told(FIVE + "robber 14;")::best, 10, 0, 1, 2, 3, 4);
        row("a new object", new TownBand()::best, 10, -4, -4, -4, -4, -4);
    }

    static void promise20_bad() {
        Due.says("Promise 20", "BAD.");
        bad("best", Due.told(FIVE)::best, -1, 3, 9, 15, 20);
        bad("best", new TownBand()::best, -1, 3, 9, 15, 20);
    }

    static void promise21_fewestByWhichAllFlee() {
        Due.says("Promise 21", "The TOWER that STANDS of fewest BEASTS by which all ROBBERS flee, of several "
            + "the first by rows: how many BEASTS (what 0), its NOISE (1);");
        row("of a new object", new TownBand()::few, 0, 0, 0);
        row("no ROBBERS: nobody is needed", Due.told(LOUD_FIVE)::few, 0, 0, 0);
        row("all five", Due.told(FIVE + "robber 14;")::few, 0, 5, 15);
        row("four", Due.told(FIVE + "robber 9;")::few, 0, 4, 10);
        row("one", Due.told("cat 1 1;cat 1 5;cat 1 9;robber 4;")::few, 0, 1, 5);
        row("the last one by 6 more", Due.told("cat 1 1;robber 0;robber 2;robber 4;robber 6;")::few, 0, 1, 1);
        TownBand y = Due.told("cock 1 4;cock 2 4;cock 2 4;robber 11;");
        row("that stands", y::few, 0, 2, 12);
        row("the first by rows", y::few, 10, 1, 0);
    }

    static void promise21_atItsPlace() {
        Due.says("Promise 21", "10 and i: the BEAST at its place i (NONE: not so many).");
        row("nobody", Due.told(FIVE)::few, 10, -4, -4, -4, -4, -4);
        row("one", Due.told("cat 1 1;cat 1 2;robber 1;")::few, 10, 1, -4, -4, -4, -4);
        row("five", Due.told(FIVE + "robber 14;")::few, 10, 0, 1, 2, 3, 4);
        row("a new object", new TownBand()::few, 10, -4, -4, -4, -4, -4);
    }

    static void promise21_badNoneByNone() {
        Due.says("Promise 21", "BAD; NONE: by none.");
        TownBand x = Due.told(FIVE + "robber 15;");
        bad("few", x::few, -1, 2, 9, 15, 20);
        row("by none", x::few, 0, -4, -4);
        row("by none", x::few, 10, -4, -4, -4, -4, -4);
        x.steel(0, 14);
        row("by one", x::few, 0, 5, 15);
        row("one flees, the other one never", Due.told("cat 1 9;robber 0;robber 11;")::few, 0, -4, -4);
        row("no BEASTS", Due.told("robber 0;")::few, 0, -4, -4);
        bad("few", new TownBand()::few, -1, 2, 9, 15, 20);
    }

    static void promise22_theLoudest() {
        Due.says("Promise 22", "The loudest TOWER that STANDS, of several the one of fewest BEASTS, of these "
            + "the first by rows: its NOISE (what 0), how many BEASTS (1);");
        row("of a new object", new TownBand()::loud, 0, 0, 0);
        row("no VOICE", Due.told("cat 1 0;cat 1 0;")::loud, 0, 0, 0);
        row("the most there can be", Due.told(LOUD_FIVE)::loud, 0, 135, 5);
        row("one", Due.told("cock 1 1;")::loud, 0, 1, 1);
        // 2 upon nothing but cocks of 1: two of three stand
        TownBand x = Due.told("cock 1 5;cock 1 5;cock 1 5;");
        row("the first by rows", x::loud, 0, 15, 2);
        row("the first by rows", x::loud, 10, 0, 1, -4);
        // 0 below 1 does not stand, 1 below 0 does; a silent one lifts those above it
        TownBand y = Due.told("cock 1 9;cat 9 0;");
        row("a silent one below", y::loud, 0, 18, 2);
        row("a silent one below", y::loud, 10, 1, 0);
        // 3 * 4 by two, 1 * 1 + 2 * 2 .. by three: alike, so two
        TownBand z = Due.told("cat 1 1;cat 1 2;cock 9 4;cock 9 4;");
        row("fewest of those", z::loud, 0, 12, 2);
        row("fewest of those", z::loud, 10, 2, 3, -4);
    }

    static void promise22_atItsPlace() {
        Due.says("Promise 22", "10 and i: the BEAST at its place i (NONE: not so many).");
        row("nobody", Due.told("cat 1 0;cat 1 0;")::loud, 10, -4, -4, -4, -4, -4);
        row("one", Due.told("cock 1 1;")::loud, 10, 0, -4, -4, -4, -4);
        row("five", Due.told("ass 1 5;ass 1 4;ass 1 3;ass 1 2;ass 1 1;")::loud, 10, 4, 3, 2, 1, 0);
        row("five alike", Due.told(FIVE)::loud, 10, 0, 1, 2, 3, 4);
        row("a new object", new TownBand()::loud, 10, -4, -4, -4, -4, -4);
    }

    static void promise22_bad() {
        Due.says("Promise 22", "BAD.");
        bad("loud", Due.told(FIVE)::loud, -1, 2, 9, 15, 20);
        bad("loud", new TownBand()::loud, -1, 2, 9, 15, 20);
    }

    static void promise23_howManyStand() {
        Due.says("Promise 23", "How many TOWERS STAND (nobody is one, too).");
        Due.is("nobody alone", new TownBand().towers(), 1);
        Due.is("nobody and one", Due.told("cat 1 1;").towers(), 2);
        Due.is("all there can be", Due.told(FIVE).towers(), 1 + 5 + 20 + 60 + 120 + 120);
        Due.is("2 upon 1 does not stand", Due.told("cock 1 1;cock 2 1;").towers(), 4);
        Due.is("alike do", Due.told("cock 2 1;cock 2 1;").towers(), 5);
        // cocks of 9 bear one of 9, no two
        Due.is("no three stand", Due.told("cock 9 1;cock 9 1;cock 9 1;cock 9 1;cock 9 1;").towers(), 1 + 5 + 20);
        // an ass of 9 bears two of 9, no three
        Due.is("no four stand", Due.told("ass 9 1;ass 9 1;ass 9 1;ass 9 1;ass 9 1;").towers(), 1 + 5 + 20 + 60);
        TownBand x = Due.told(FIVE + "tower 0 1;");
        Due.is("THE TOWER does not matter", x.towers(), 326);
        Due.is("it stays", x.rule(2), 2);
    }
}
