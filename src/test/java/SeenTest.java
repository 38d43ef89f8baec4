/** Promises 31 to 34: see, forget, fits, ask. */
public final class SeenTest {
    public static void main(String[] args) {
        seeing();
        forgetting();
        fitting();
        asking();
        Due.finish();
    }

    private static void seeing() {
        TownBand x = new TownBand();
        Due.is("see(0, 1)", x.see(0, 1), Due.BAD);
        Due.is("see(6, 1)", x.see(6, 1), Due.BAD);
        Due.is("see(1, -1)", x.see(1, -1), Due.BAD);
        Due.is("see(1, 100)", x.see(1, 100), Due.BAD);
        Due.is("see(1, 0)", x.see(1, 0), 1);
        Due.is("see(5, 99)", x.see(5, 99), 2);
        for (int i = 3; i <= 6; i++) {
            Due.is("see on", x.see(1, 1), i);
        }
        Due.is("see full", x.see(1, 1), Due.FULL);
        Due.is("see full and bad", x.see(0, 1), Due.BAD);
        Due.is("count(0)", x.count(0), 6);
    }

    private static void forgetting() {
        TownBand x = Due.told("ass 1 1;cat 1 1;");
        x.see(1, 7);
        x.see(1, 2);
        Due.is("fits none", x.fits(0), 0);
        Due.is("forget(-1)", x.forget(-1), Due.BAD);
        Due.is("forget(3)", x.forget(3), Due.BAD);
        Due.is("forget(2)", x.forget(2), 2);
        Due.is("forget(1)", x.forget(1), 2);
        Due.is("the first one is left", x.fits(20), 0);
        Due.is("fits one", x.fits(0), 1);
        Due.is("forget(0)", x.forget(0), 1);
        Due.is("fits all", x.fits(0), 2);
    }

    private static void fitting() {
        TownBand x = Due.told("ass 9 4;hound 6 6;cat 3 7;cock 2 9;");
        Due.is("all", x.fits(0), 24);
        for (int i = 0; i < 4; i++) {
            Due.is("all lie " + i, x.fits(10 + i), 15);
            Due.is("first " + i, x.fits(20 + i), i);
        }
        x.see(2, 5);
        Due.is("of 5", x.fits(0), 4);
        int[] bits = {10, 10, 5, 5};
        int[] first = {1, 3, 0, 2};
        for (int i = 0; i < 4; i++) {
            Due.is("of 5 lie " + i, x.fits(10 + i), bits[i]);
            Due.is("of 5 first " + i, x.fits(20 + i), first[i]);
        }
        x.see(1, 1);
        x.see(3, 7);
        Due.is("one is left", x.fits(0), 1);
        Due.is("it begins", x.fits(20), 3);
        Due.is("it goes on", x.fits(12), 1 << 2);
        x.see(4, 14);
        Due.is("all of it", x.fits(0), 1);
        x.see(5, 14);
        Due.is("more beds than there are", x.fits(0), 0);
        Due.is("nobody lies there", x.fits(10), 0);
        Due.is("no first one", x.fits(20), Due.NONE);
        Due.is("fits(-1)", x.fits(-1), Due.BAD);
        Due.is("fits(1)", x.fits(1), Due.BAD);
        Due.is("fits(9)", x.fits(9), Due.BAD);
        Due.is("fits(14)", x.fits(14), Due.BAD);
        Due.is("fits(19)", x.fits(19), Due.BAD);
        Due.is("fits(24)", x.fits(24), Due.BAD);
        Due.is("of no beasts", new TownBand().fits(0), 1);
        Due.is("of no beds", new TownBand().fits(10), Due.BAD);
        // the scout's courage does not matter
        TownBand y = Due.told("ass 1 1;cock 1 1;scout 0;");
        y.see(2, 8);
        Due.is("whether he goes on or not", y.fits(0), 2);
    }

    private static void asking() {
        TownBand x = Due.told("ass 9 4;hound 6 6;cat 3 7;cock 2 9;");
        // behind 1: 6 of each beast; behind 2: sums 11, 9, 8, 6, 5, 3: 4 of each; behind 3: 6 of each
        Due.is("ask(0)", x.ask(0), 2);
        Due.is("ask(1)", x.ask(1), 4);
        x.see(2, 5);
        Due.is("then", x.ask(0), 1);
        Due.is("then 1", x.ask(1), 2);
        x.see(1, 4);
        Due.is("at last", x.ask(0), 3);
        Due.is("at last 1", x.ask(1), 1);
        x.see(3, 7);
        Due.is("one is left", x.ask(0), Due.NONE);
        Due.is("one is left 1", x.ask(1), Due.NONE);
        x.see(1, 99);
        Due.is("none is left", x.ask(0), Due.NONE);
        Due.is("none is left 1", x.ask(1), Due.NONE);
        Due.is("ask(-1)", x.ask(-1), Due.BAD);
        Due.is("ask(2)", x.ask(2), Due.BAD);
        Due.is("of no beasts", new TownBand().ask(1), Due.NONE);
        TownBand alike = Due.told("cat 1 1;cat 2 2;cat 3 3;");
        Due.is("all hurt alike", alike.ask(0), Due.NONE);
        TownBand five = Due.told("ass 1 1;ass 1 1;ass 1 1;ass 1 1;ass 1 1;");
        Due.is("five alike", five.ask(0), Due.NONE);
        five.alter(4, 0, 0);
        // the cock lies behind 1 by 24 of 120, behind 2 by 48, behind 3 by 72
        Due.is("of five", five.ask(0), 2);
        Due.is("of five 1", five.ask(1), 72);
        five.see(5, 29);
        Due.is("all of five fit", five.fits(0), 120);
        Due.is("the last bed", five.fits(14), 31);
        Due.is("the last bed's first", five.fits(24), 4);
        TownBand two = Due.told("cat 1 1;ass 2 2;");
        Due.is("of two", two.ask(0), 1);
        Due.is("of two 1", two.ask(1), 1);
    }
}
