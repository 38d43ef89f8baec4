/** Promise 35: drift. */
public final class DriftTest {
    public static void main(String[] args) {
        TownBand x = Due.told("ass 9 4;hound 6 6;cat 3 7;cock 2 9;robber 5;robber 30;tower 0 1 2 3;");
        int[] seeds = {0, 1, 7, -3, 12345, Integer.MAX_VALUE, Integer.MIN_VALUE};
        for (int seed : seeds) {
            for (int n = 1; n <= 60; n += 59) {
                look(x, seed, n);
            }
        }
        Due.is("nothing is changed", x.noise(), 73);
        Due.is("drift(1, 0, 0)", x.drift(1, 0, 0), Due.BAD);
        Due.is("drift(1, 61, 0)", x.drift(1, 61, 0), Due.BAD);
        Due.is("drift(1, -1, 0)", x.drift(1, -1, 0), Due.BAD);
        Due.is("drift(1, 1, -1)", x.drift(1, 1, -1), Due.BAD);
        Due.is("drift(1, 1, 2)", x.drift(1, 1, 2), Due.BAD);
        TownBand none = new TownBand();
        Due.is("of no beasts", none.drift(1, 1, 0), Due.STATE);
        Due.is("of no beasts and bad", none.drift(1, 0, 0), Due.BAD);
        // by hand: seed 1 becomes 1103527590, bits 16838: 16838 modulo 2 is 0;
        // then 2524885223, bits 5758: the voice of beast 0 is 8
        TownBand two = Due.told("ass 9 1;cat 1 1;robber 9;robber 11;tower 0 1;");
        Due.is("by hand: noise", two.drift(1, 1, 1), 8 + 2);
        Due.is("by hand: flight", two.drift(1, 1, 0), 2);
        Due.finish();
    }

    /** Told again through alter() on an image, with the seed held as a long. */
    private static void look(TownBand x, int seed, int n) {
        x.keep(0);
        long now = seed & 0xFFFFFFFFL;
        int fled = 0;
        for (int i = 0; i < n; i++) {
            now = (now * 1103515245L + 12345L) & 0xFFFFFFFFL;
            int b = (int) (now / 65536 % 32768 % x.rule(0));
            now = (now * 1103515245L + 12345L) & 0xFFFFFFFFL;
            x.alter(b, 2, (int) (now / 65536 % 32768 % 10));
            fled += x.flight(1);
        }
        int noise = x.noise();
        x.back(0);
        Due.is("drift " + seed + " " + n, x.drift(seed, n, 0), fled);
        Due.is("drift noise " + seed + " " + n, x.drift(seed, n, 1), noise);
    }
}
