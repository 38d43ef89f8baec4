/** Promises 24 to 26: tale, beds, brave. */
public final class ScoutTest {
    public static void main(String[] args) {
        tales();
        worstBeds();
        bravest();
        Due.finish();
    }

    private static void tales() {
        TownBand x = Due.told("ass 9 4;hound 6 6;cat 3 7;cock 2 9;scout 6;beds 3 1 0 2;");
        tale(x, 12, 3);
        x.scout(4);
        tale(x, 5, 2);
        x.scout(5);
        tale(x, 12, 3);
        x.scout(0);
        tale(x, 1, 1);
        x.scout(1);
        tale(x, 5, 2);
        x.scout(12);
        tale(x, 14, 4);
        x.scout(11);
        tale(x, 12, 3);
        Due.is("tale(-1)", x.tale(-1), Due.BAD);
        Due.is("tale(3)", x.tale(3), Due.BAD);
        tale(new TownBand(), 0, 0);
    }

    private static void tale(TownBand x, int hurt, int met) {
        Due.is("hurt", x.tale(0), hurt);
        Due.is("met", x.tale(1), met);
        Due.is("told", x.tale(2), 9 * hurt);
    }

    private static void worstBeds() {
        TownBand x = Due.told("ass 9 4;hound 6 6;cat 3 7;cock 2 9;scout 6;beds 3 1 0 2;");
        beds(x, 13, 1, 2, 0, 3);
        x.scout(0);
        beds(x, 7, 0, 1, 2, 3);
        x.scout(40);
        beds(x, 14, 0, 1, 2, 3);
        Due.is("beds are as they were", x.at(1, 0), 3);
        Due.is("beds(-1)", x.beds(-1), Due.BAD);
        Due.is("beds(1)", x.beds(1), Due.BAD);
        Due.is("beds(9)", x.beds(9), Due.BAD);
        Due.is("beds(14)", x.beds(14), Due.BAD);
        TownBand none = new TownBand();
        Due.is("beds(0) of none", none.beds(0), 0);
        Due.is("beds(10) of none", none.beds(10), Due.BAD);
        beds(Due.told("cock 1 1;ass 1 1;scout 0;"), 7, 1, 0);
        beds(Due.told("cock 1 1;ass 1 1;scout 1;"), 8, 0, 1);
    }

    private static void beds(TownBand x, int hurt, int... row) {
        Due.is("beds(0)", x.beds(0), hurt);
        for (int i = 0; i < row.length; i++) {
            Due.is("beds " + i, x.beds(10 + i), row[i]);
        }
    }

    private static void bravest() {
        TownBand x = Due.told("ass 9 4;hound 6 6;cat 3 7;cock 2 9;beds 3 1 0 2;");
        Due.is("brave()", x.brave(), 12);
        x.swap(0, 2);
        Due.is("brave() still", x.brave(), 12);
        x.swap(0, 3);
        Due.is("brave() otherwise", x.brave(), 7);
        x.scout(x.brave());
        Due.is("meets all", x.tale(1), 4);
        x.scout(x.brave() - 1);
        Due.is("and not by less", x.tale(1), 3);
        Due.is("of none", new TownBand().brave(), 0);
        Due.is("of one", Due.told("ass 1 1;").brave(), 0);
        Due.is("of five", Due.told("ass 1 1;ass 1 1;ass 1 1;ass 1 1;ass 1 1;").brave(), 28);
    }
}
