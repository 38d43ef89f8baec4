import java.math.BigInteger;
import java.util.ArrayList;
import java.util.Arrays;
import java.util.List;
import java.util.Random;
import java.util.TreeMap;

/** All promises: long runs of calls by a fixed seed, each answer beside that of a plain model. */
public final class RandomRunsTest {
    private static final int RUNS = 1500;
    private static final int CALLS = 512;
    private static final int METHODS = 41;

    public static void main(String[] args) {
        for (int run = 0; run < RUNS; run++) {
            Random random = new Random(run);
            TownBand x = new TownBand();
            Model m = new Model();
            int left = CALLS;
            left -= tell(x, m, random);
            while (left > 0) {
                if (random.nextInt(60) == 0 && left > 161) {
                    left -= tell(x, m, random);
                } else {
                    oneCall(run, x, m, random);
                    left--;
                }
            }
        }
        Due.finish();
    }

    private static int tell(TownBand x, Model m, Random random) {
        String text = text(random);
        x.end(0);
        m.tape.clear();
        for (int i = 0; i < text.length(); i++) {
            Due.is("feed", x.feed(text.charAt(i)), m.feed(text.charAt(i)));
        }
        Due.is("text of " + text, x.text(), m.text());
        Due.is("fault of " + text, x.fault(), m.fault);
        return text.length() + 3;
    }

    private static String text(Random random) {
        StringBuilder s = new StringBuilder();
        int beasts = random.nextInt(7) == 0 ? random.nextInt(7) : 2 + random.nextInt(4);
        int robbers = random.nextInt(5);
        String[] kinds = {"cock", "cat", "hound", "ass"};
        boolean light = random.nextBoolean();
        for (int b = 0; b < beasts; b++) {
            int weight = 1 + random.nextInt(light ? 3 : 9);
            s.append(kinds[random.nextInt(4)]).append(' ').append(weight).append(' ').append(random.nextInt(10));
            s.append(';');
        }
        int most = 5 + random.nextInt(95);
        for (int r = 0; r < robbers; r++) {
            s.append("robber ").append(random.nextInt(most)).append(';');
        }
        if (random.nextInt(3) == 0) {
            s.append("scout ").append(random.nextInt(41)).append(';');
        }
        if (random.nextInt(4) == 0) {
            s.append("beds").append(row(random, beasts, beasts)).append(';');
        }
        if (random.nextInt(4) == 0) {
            s.append(" tower").append(row(random, beasts, random.nextInt(3))).append(';');
        }
        if (random.nextInt(3) == 0) {
            spoil(s, random);
        }
        return s.length() > 160 ? s.substring(0, 160) : s.toString();
    }

    private static String row(Random random, int beasts, int size) {
        List<Integer> all = new ArrayList<>();
        for (int b = 0; b < beasts; b++) {
            all.add(b);
        }
        java.util.Collections.shuffle(all, random);
        StringBuilder s = new StringBuilder();
        for (int i = 0; i < Math.min(size, beasts); i++) {
            s.append(' ').append(all.get(i));
        }
        return s.toString();
    }

    private static void spoil(StringBuilder s, Random random) {
        String signs = "0123456789 ;;abcdest !A~";
        int times = 1 + random.nextInt(2);
        for (int i = 0; i < times && s.length() > 0; i++) {
            int place = random.nextInt(s.length());
            char sign = signs.charAt(random.nextInt(signs.length()));
            switch (random.nextInt(3)) {
                case 0:
                    s.setCharAt(place, sign);
                    break;
                case 1:
                    s.deleteCharAt(place);
                    break;
                default:
                    s.insert(place, sign);
                    break;
            }
        }
    }

    /** Mostly numbers that stand, sometimes far ones. */
    private static int some(Random random, int low, int high) {
        if (random.nextInt(50) == 0) {
            int[] far = {Integer.MIN_VALUE, Integer.MAX_VALUE, -1, high + 1, 100, 1 << 16};
            return far[random.nextInt(far.length)];
        }
        return low + random.nextInt(high - low + 1);
    }

    private static int place(Random random, int top) {
        return random.nextBoolean() ? some(random, -1, top) : some(random, 9, 15);
    }

    private static void oneCall(int run, TownBand x, Model m, Random q) {
        int which = q.nextInt(METHODS);
        if (which == 2 && q.nextInt(20) > 0) {
            // most texts of stray bytes tell nothing, or clear all: so climb, mostly
            which = 11;
        }
        int a = 0;
        int b = 0;
        int c = 0;
        int d = 0;
        switch (which) {
            case 0: a = some(q, 0, 127); break;
            case 1: a = some(q, 0, 5); break;
            case 4: a = some(q, 0, 4); break;
            case 5: a = some(q, 0, 5); b = some(q, 0, 6); break;
            case 6: a = some(q, 0, 4); break;
            case 7: a = some(q, 0, 1); b = some(q, 0, 5); break;
            case 8: a = some(q, 0, 5); b = some(q, 0, 2); c = some(q, 0, 9); break;
            case 9: a = some(q, 0, 4); b = some(q, 0, 99); break;
            case 10: a = some(q, 0, 40); break;
            case 11: a = some(q, 0, 4); break;
            case 12: a = some(q, 0, 3); break;
            case 13: a = some(q, 0, 4); b = some(q, 0, 4); break;
            case 15: a = some(q, 0, 1); break;
            case 18: a = place(q, 3); break;
            case 19: a = place(q, 2); break;
            case 20: a = place(q, 2); break;
            case 22: a = some(q, 0, 2); break;
            case 23: a = place(q, 1); break;
            case 25: a = some(q, 0, 31); break;
            case 26: a = some(q, 0, 4); b = some(q, 0, 1); break;
            case 27: a = some(q, 0, 10); b = some(q, 0, 1); break;
            case 28: a = some(q, 0, 10); b = some(q, 0, 1); break;
            case 29: a = some(q, 1, 4); b = q.nextBoolean() ? some(q, 0, 20) : m.hurtBehind(m.beds, a); break;
            case 30: a = some(q, 0, 3); break;
            case 31: a = q.nextInt(3) == 0 ? some(q, 19, 25) : place(q, 1); break;
            case 32: a = some(q, 0, 1); break;
            case 33: a = q.nextInt(); b = some(q, 1, 60); c = some(q, 0, 1); break;
            case 34: a = some(q, 0, 1); break;
            case 35: a = some(q, 0, 1); break;
            case 36: a = some(q, 0, 3); b = some(q, 0, 2); c = q.nextInt(9) == 0 ? -1 : some(q, 0, 40); break;
            case 37: a = some(q, 0, 3); b = some(q, 0, 12); c = some(q, -1, 5) + (q.nextInt(4) << 8); break;
            case 38: a = some(q, 0, 3); b = some(q, 0, 2); c = some(q, 0, 12); d = some(q, 0, 4); break;
            case 40: a = some(q, 0, 5); break;
            default: break;
        }
        String name = "run " + run + " call " + which + " (" + a + ", " + b + ", " + c + ", " + d + ")";
        Due.is(name, ofClass(x, which, a, b, c, d), m.call(which, a, b, c, d));
        if (q.nextInt(8) == 0) {
            same(name, x, m);
        }
    }

    private static void same(String name, TownBand x, Model m) {
        Due.is(name + " then tower", x.rule(4), m.rule(4));
        Due.is(name + " then noise", x.noise(), m.noise(m.tower, m.voices));
        Due.is(name + " then hurt", x.tale(0), m.tale(0));
        Due.is(name + " then weight", x.count(4), m.count(4));
        Due.is(name + " then courage", x.count(5), m.count(5));
        Due.is(name + " then torn", x.torn(), m.torn);
        Due.is(name + " then seen", x.count(0), m.seen.size());
    }

    private static long ofClass(TownBand x, int which, int a, int b, int c, int d) {
        switch (which) {
            case 0: return x.feed(a);
            case 1: return x.end(a);
            case 2: return x.text();
            case 3: return x.fault();
            case 4: return x.rule(a);
            case 5: return x.beast(a, b);
            case 6: return x.robber(a);
            case 7: return x.at(a, b);
            case 8: return x.alter(a, b, c);
            case 9: return x.steel(a, b);
            case 10: return x.scout(a);
            case 11: return x.climb(a);
            case 12: return x.down(a);
            case 13: return x.swap(a, b);
            case 14: return x.noise();
            case 15: return x.flight(a);
            case 16: return x.free();
            case 17: return x.need();
            case 18: return x.best(a);
            case 19: return x.few(a);
            case 20: return x.loud(a);
            case 21: return x.towers();
            case 22: return x.tale(a);
            case 23: return x.beds(a);
            case 24: return x.brave();
            case 25: return x.value(a);
            case 26: return x.share(a, b);
            case 27: return x.mean(a, b);
            case 28: return x.luck(a, b);
            case 29: return x.see(a, b);
            case 30: return x.forget(a);
            case 31: return x.fits(a);
            case 32: return x.ask(a);
            case 33: return x.drift(a, b, c);
            case 34: return x.keep(a);
            case 35: return x.back(a);
            case 36: return x.sheet(a, b, c);
            case 37: return x.lay(a, b, c);
            case 38: return x.read(a, b, c, d);
            case 39: return x.torn();
            default: return x.count(a);
        }
    }

    /** The document once more, with lists, without cleverness, and with the machine's own faults. */
    private static final class Model {
        final List<Integer> tape = new ArrayList<>();
        List<Integer> kinds = new ArrayList<>();
        List<Integer> weights = new ArrayList<>();
        List<Integer> voices = new ArrayList<>();
        List<Integer> robbers = new ArrayList<>();
        List<Integer> tower = new ArrayList<>();
        List<Integer> beds = new ArrayList<>();
        List<int[]> seen = new ArrayList<>();
        int scout = 5;
        int fault = 0;
        int torn = 0;
        final Model[] images = new Model[2];
        final Object[] sheets = new Object[4];

        long call(int which, int a, int b, int c, int d) {
            if (which < 18) {
                return stateCall(which, a, b, c);
            }
            switch (which) {
                case 18: return best(a);
                case 19: return few(a);
                case 20: return loud(a);
                case 21: return standing(all()).size();
                case 22: return tale(a);
                case 23: return bedsCall(a);
                case 24: return brave();
                case 25: return a < 0 || a >= 1 << size() ? -1 : value(a);
                case 26: return share(a, b);
                case 27: return hoarse(a, b, false);
                case 28: return hoarse(a, b, true);
                case 29: return see(a, b);
                case 30: return forget(a);
                case 31: return fits(a);
                case 32: return ask(a);
                case 33: return drift(a, b, c);
                case 34: return keep(a);
                case 35: return back(a);
                case 36: return sheet(a, b, c);
                case 37: return lay(a, b, c);
                case 38: return read(a, b, c, d);
                case 39: return torn;
                default: return count(a);
            }
        }

        long stateCall(int which, int a, int b, int c) {
            switch (which) {
                case 0: return feed(a);
                case 1: return end(a);
                case 2: return text();
                case 3: return fault;
                case 4: return rule(a);
                case 5: return beast(a, b);
                case 6: return a >= 0 && a < robbers.size() ? robbers.get(a) : -1;
                case 7: return at(a, b);
                case 8: return alter(a, b, c);
                case 9: return a < 0 || a >= robbers.size() || b < 0 || b > 99 ? -1 : robbers.set(a, b);
                case 10: return scout(a);
                case 11: return climb(a);
                case 12: return down(a);
                case 13: return swap(a, b);
                case 14: return noise(tower, voices);
                case 15: return a == 0 ? fled(noise(tower, voices))
                    : a == 1 ? Integer.bitCount(fled(noise(tower, voices))) : -1;
                case 16: return free();
                default: return need();
            }
        }

        int size() {
            return kinds.size();
        }

        List<Integer> all() {
            List<Integer> row = new ArrayList<>();
            for (int b = 0; b < size(); b++) {
                row.add(b);
            }
            return row;
        }

        int feed(int c) {
            if (c < 0 || c > 127) {
                return -1;
            }
            if (tape.size() == 160) {
                return -3;
            }
            tape.add(c);
            return tape.size();
        }

        int end(int n) {
            if (n < 0 || n > tape.size()) {
                return -1;
            }
            int had = tape.size();
            while (tape.size() > n) {
                tape.remove(tape.size() - 1);
            }
            return had;
        }

        /** What a text has against it: its number and its place. */
        private static final class Flaw extends Exception {
            private static final long serialVersionUID = 1L;
            final int number;
            final int place;

            Flaw(int number, int place) {
                this.number = number;
                this.place = place;
            }
        }

        private String source;
        private int cursor;
        private int start;

        int text() {
            StringBuilder s = new StringBuilder();
            for (int c : tape) {
                s.append((char) c);
            }
            tape.clear();
            source = s.toString();
            Model next = new Model();
            try {
                int lines = next.takeAll(source);
                take(next);
                seen.clear();
                images[0] = null;
                images[1] = null;
                fault = 0;
                return lines;
            } catch (Flaw flaw) {
                fault = flaw.number;
                return -10 - flaw.place;
            }
        }

        private String token() throws Flaw {
            while (cursor < source.length() && source.charAt(cursor) == ' ') {
                cursor++;
            }
            start = cursor;
            String rest = source.substring(cursor);
            if (rest.isEmpty()) {
                return "";
            }
            String found = rest.replaceFirst("(?s)^([a-z]+|[0-9]+|;|).*$", "$1");
            if (found.isEmpty() || found.matches("[0-9]{3,}")) {
                throw new Flaw(1, start);
            }
            cursor += found.length();
            return found;
        }

        private int number(String token, int low, int high) throws Flaw {
            if (!token.matches("[0-9]+")) {
                throw new Flaw(2, start);
            }
            int n = Integer.parseInt(token);
            if (n < low || n > high) {
                throw new Flaw(3, start);
            }
            return n;
        }

        private void stop() throws Flaw {
            if (!token().equals(";")) {
                throw new Flaw(2, start);
            }
        }

        private int takeAll(String text) throws Flaw {
            source = text;
            List<String> once = new ArrayList<>();
            List<String> beastNames = Arrays.asList("cock", "cat", "hound", "ass");
            List<String> names = Arrays.asList("scout", "tower", "beds");
            int lines = 0;
            for (String name = token(); !name.isEmpty(); name = token()) {
                if (beastNames.contains(name)) {
                    if (size() == 5) {
                        throw new Flaw(5, start);
                    }
                    int weight = number(token(), 1, 9);
                    int voice = number(token(), 0, 9);
                    kinds.add(beastNames.indexOf(name));
                    weights.add(weight);
                    voices.add(voice);
                    stop();
                } else if (name.equals("robber")) {
                    if (robbers.size() == 4) {
                        throw new Flaw(5, start);
                    }
                    robbers.add(number(token(), 0, 99));
                    stop();
                } else if (names.contains(name)) {
                    if (once.contains(name)) {
                        throw new Flaw(4, start);
                    }
                    once.add(name);
                    takeOnce(name);
                } else {
                    throw new Flaw(2, start);
                }
                lines++;
            }
            lookBehindAll(once.contains("beds"));
            return lines;
        }

        private void takeOnce(String name) throws Flaw {
            if (name.equals("scout")) {
                scout = number(token(), 0, 40);
                stop();
                return;
            }
            List<Integer> row = name.equals("tower") ? tower : beds;
            for (String t = token(); !t.equals(";"); t = token()) {
                int b = number(t, 0, 4);
                if (row.contains(b)) {
                    throw new Flaw(4, start);
                }
                row.add(b);
            }
        }

        private void lookBehindAll(boolean bedsTold) throws Flaw {
            int length = source.length();
            if (!all().containsAll(tower) || !all().containsAll(beds)) {
                throw new Flaw(6, length);
            }
            if (bedsTold && beds.size() != size()) {
                throw new Flaw(7, length);
            }
            if (!stands(tower)) {
                throw new Flaw(8, length);
            }
            if (!bedsTold) {
                beds = all();
            }
        }

        void take(Model other) {
            kinds = new ArrayList<>(other.kinds);
            weights = new ArrayList<>(other.weights);
            voices = new ArrayList<>(other.voices);
            robbers = new ArrayList<>(other.robbers);
            tower = new ArrayList<>(other.tower);
            beds = new ArrayList<>(other.beds);
            scout = other.scout;
        }

        int rule(int what) {
            int bits = 0;
            for (int b : tower) {
                bits += 1 << b;
            }
            int[] answers = {size(), robbers.size(), tower.size(), scout, bits};
            return what < 0 || what > 4 ? -1 : answers[what];
        }

        int byKind(int kind, int n) {
            int cat = n + 1;
            int hound = cat + cat;
            int[] became = {n, cat, hound, hound + 3};
            return became[kind];
        }

        int hurts(int b) {
            return byKind(kinds.get(b), 1);
        }

        int beast(int b, int what) {
            if (b < 0 || b >= size() || what < 0 || what > 6) {
                return -1;
            }
            int place = tower.indexOf(b);
            int[] answers = {kinds.get(b), weights.get(b), voices.get(b), byKind(kinds.get(b), weights.get(b)),
                hurts(b), place < 0 ? -4 : place, beds.indexOf(b)};
            return answers[what];
        }

        int at(int row, int i) {
            if (row < 0 || row > 1) {
                return -1;
            }
            List<Integer> of = row == 0 ? tower : beds;
            return i < 0 || i >= of.size() ? -1 : of.get(i);
        }

        int alter(int b, int what, int v) {
            int[] low = {0, 1, 0};
            int[] high = {3, 9, 9};
            if (b < 0 || b >= size() || what < 0 || what > 2 || v < low[what] || v > high[what]) {
                return -1;
            }
            List<Integer> of = what == 0 ? kinds : what == 1 ? weights : voices;
            int was = of.set(b, v);
            if (!stands(tower)) {
                of.set(b, was);
                return -2;
            }
            return was;
        }

        int scout(int v) {
            if (v < 0 || v > 40) {
                return -1;
            }
            int was = scout;
            scout = v;
            return was;
        }

        boolean stands(List<Integer> row) {
            for (int i = 0; i < row.size(); i++) {
                int above = 0;
                for (int j = i + 1; j < row.size(); j++) {
                    above += weights.get(row.get(j));
                }
                if (byKind(kinds.get(row.get(i)), weights.get(row.get(i))) < above) {
                    return false;
                }
            }
            return true;
        }

        int climb(int b) {
            if (b < 0 || b >= size()) {
                return -1;
            }
            if (tower.contains(b)) {
                return -2;
            }
            tower.add(b);
            if (!stands(tower)) {
                tower.remove(tower.size() - 1);
                return -2;
            }
            return tower.size();
        }

        int down(int n) {
            if (n < 0 || n > tower.size()) {
                return -1;
            }
            int had = tower.size();
            tower = new ArrayList<>(tower.subList(0, n));
            return had;
        }

        int swap(int i, int j) {
            if (i < 0 || j < 0 || i >= size() || j >= size() || i == j) {
                return -1;
            }
            java.util.Collections.swap(beds, i, j);
            return beds.get(i);
        }

        int noise(List<Integer> row, List<Integer> voiceOf) {
            int sum = 0;
            for (int i = 0; i < row.size(); i++) {
                sum += (i + 1) * voiceOf.get(row.get(i));
            }
            return sum;
        }

        int fled(int noise) {
            int bits = 0;
            for (int r = 0; r < robbers.size(); r++) {
                if (noise + 2 * Integer.bitCount(bits) > robbers.get(r)) {
                    bits |= 1 << r;
                }
            }
            return bits;
        }

        int free() {
            int bits = 0;
            for (int b = 0; b < size(); b++) {
                if (climb(b) > 0) {
                    tower.remove(tower.size() - 1);
                    bits |= 1 << b;
                }
            }
            return bits;
        }

        int need() {
            int noise = 0;
            while (Integer.bitCount(fled(noise)) < robbers.size()) {
                noise++;
            }
            return noise;
        }

        /** All rows of some beasts, each once, by length and then by rows. */
        List<List<Integer>> standing(List<Integer> from) {
            List<List<Integer>> found = new ArrayList<>();
            List<List<Integer>> last = new ArrayList<>();
            last.add(new ArrayList<>());
            for (int size = 0; size <= from.size(); size++) {
                List<List<Integer>> next = new ArrayList<>();
                for (List<Integer> row : last) {
                    if (stands(row)) {
                        found.add(row);
                    }
                    for (int b : from) {
                        if (!row.contains(b)) {
                            List<Integer> longer = new ArrayList<>(row);
                            longer.add(b);
                            next.add(longer);
                        }
                    }
                }
                last = next;
            }
            return found;
        }

        int howMany(List<Integer> row) {
            return Integer.bitCount(fled(noise(row, voices)));
        }

        int of(List<Integer> row, int what, int... first) {
            if (what >= 0 && what < first.length) {
                return first[what];
            }
            return what - 10 < row.size() ? row.get(what - 10) : -4;
        }

        int best(int what) {
            if (!(what >= 0 && what <= 2 || what >= 10 && what <= 14)) {
                return -1;
            }
            List<Integer> found = new ArrayList<>();
            for (List<Integer> row : standing(all())) {
                if (howMany(row) > howMany(found)) {
                    found = row;
                }
            }
            return of(found, what, howMany(found), noise(found, voices), found.size());
        }

        int few(int what) {
            if (!(what >= 0 && what <= 1 || what >= 10 && what <= 14)) {
                return -1;
            }
            for (List<Integer> row : standing(all())) {
                if (howMany(row) == robbers.size()) {
                    return of(row, what, row.size(), noise(row, voices));
                }
            }
            return -4;
        }

        int loud(int what) {
            if (!(what >= 0 && what <= 1 || what >= 10 && what <= 14)) {
                return -1;
            }
            List<Integer> found = new ArrayList<>();
            for (List<Integer> row : standing(all())) {
                if (noise(row, voices) > noise(found, voices)) {
                    found = row;
                }
            }
            return of(found, what, noise(found, voices), found.size());
        }

        int[] tour(List<Integer> row, int courage) {
            int hurt = 0;
            int met = 0;
            for (int b : row) {
                if (hurt > courage) {
                    break;
                }
                hurt += hurts(b);
                met++;
            }
            return new int[] {hurt, met, 9 * hurt};
        }

        int tale(int what) {
            return what < 0 || what > 2 ? -1 : tour(beds, scout)[what];
        }

        List<List<Integer>> orders() {
            List<List<Integer>> found = new ArrayList<>();
            List<List<Integer>> last = new ArrayList<>();
            last.add(new ArrayList<>());
            for (int i = 0; i < size(); i++) {
                List<List<Integer>> next = new ArrayList<>();
                for (List<Integer> row : last) {
                    for (int b : all()) {
                        if (!row.contains(b)) {
                            List<Integer> longer = new ArrayList<>(row);
                            longer.add(b);
                            next.add(longer);
                        }
                    }
                }
                last = next;
            }
            found.addAll(last);
            return found;
        }

        int bedsCall(int what) {
            if (what != 0 && !(what >= 10 && what < 10 + size())) {
                return -1;
            }
            List<Integer> found = all();
            for (List<Integer> row : orders()) {
                if (tour(row, scout)[0] > tour(found, scout)[0]) {
                    found = row;
                }
            }
            return what == 0 ? tour(found, scout)[0] : found.get(what - 10);
        }

        int brave() {
            for (int courage = 0; courage <= 40; courage++) {
                if (tour(beds, courage)[1] == size()) {
                    return courage;
                }
            }
            return -4;
        }

        int value(int some) {
            List<Integer> from = all();
            from.removeIf(b -> (some >> b & 1) == 0);
            int most = 0;
            for (List<Integer> row : standing(from)) {
                most = Math.max(most, howMany(row));
            }
            return most;
        }

        long part(long over, long under, int what) {
            BigInteger a = BigInteger.valueOf(over);
            BigInteger b = BigInteger.valueOf(under);
            BigInteger divisor = a.gcd(b);
            return (what == 0 ? a : b).divide(divisor).longValueExact();
        }

        long share(int b, int what) {
            if (b < 0 || b >= size() || what < 0 || what > 1) {
                return -1;
            }
            int[] values = new int[1 << size()];
            for (int some = 0; some < values.length; some++) {
                values[some] = value(some);
            }
            long sum = 0;
            long times = 0;
            for (List<Integer> row : orders()) {
                int come = 0;
                for (int one : row.subList(0, row.indexOf(b))) {
                    come |= 1 << one;
                }
                sum += values[come | 1 << b] - values[come];
                times++;
            }
            return part(sum, times, what);
        }

        long hoarse(int v, int what, boolean all) {
            if (v < 0 || v > 10 || what < 0 || what > 1) {
                return -1;
            }
            long whole = 1;
            for (int i = 0; i < tower.size(); i++) {
                whole *= 10;
            }
            return part(hoarse(v, 0, new ArrayList<>(voices), all), whole, what);
        }

        long hoarse(int v, int place, List<Integer> voiceOf, boolean all) {
            if (place == tower.size()) {
                int many = Integer.bitCount(fled(noise(tower, voiceOf)));
                return !all ? many : many == robbers.size() ? 1 : 0;
            }
            List<Integer> without = new ArrayList<>(voiceOf);
            without.set(tower.get(place), 0);
            return v * hoarse(v, place + 1, without, all) + (10 - v) * hoarse(v, place + 1, voiceOf, all);
        }

        int see(int n, int h) {
            if (n < 1 || n > 5 || h < 0 || h > 99) {
                return -1;
            }
            if (seen.size() == 6) {
                return -3;
            }
            seen.add(new int[] {n, h});
            return seen.size();
        }

        int forget(int n) {
            if (n < 0 || n > seen.size()) {
                return -1;
            }
            int had = seen.size();
            seen = new ArrayList<>(seen.subList(0, n));
            return had;
        }

        int hurtBehind(List<Integer> row, int n) {
            int hurt = 0;
            for (int i = 0; i < n && i < row.size(); i++) {
                hurt += hurts(row.get(i));
            }
            return hurt;
        }

        List<List<Integer>> fitting() {
            List<List<Integer>> found = orders();
            for (int[] one : seen) {
                found.removeIf(row -> one[0] > row.size() || hurtBehind(row, one[0]) != one[1]);
            }
            return found;
        }

        int fits(int what) {
            boolean bits = what >= 10 && what < 10 + size();
            boolean first = what >= 20 && what < 20 + size();
            if (what != 0 && !bits && !first) {
                return -1;
            }
            List<List<Integer>> found = fitting();
            if (what == 0) {
                return found.size();
            }
            if (first) {
                return found.isEmpty() ? -4 : found.get(0).get(what - 20);
            }
            int lie = 0;
            for (List<Integer> row : found) {
                lie |= 1 << row.get(what - 10);
            }
            return lie;
        }

        int ask(int what) {
            if (what < 0 || what > 1) {
                return -1;
            }
            List<List<Integer>> found = fitting();
            int least = found.size();
            int behind = -4;
            for (int n = 1; n <= size(); n++) {
                TreeMap<Integer, Integer> left = new TreeMap<>();
                int worst = 0;
                for (List<Integer> row : found) {
                    worst = Math.max(worst, left.merge(hurtBehind(row, n), 1, Integer::sum));
                }
                if (worst < least) {
                    least = worst;
                    behind = n;
                }
            }
            return behind < 0 ? -4 : what == 0 ? behind : least;
        }

        int drift(int seed, int n, int what) {
            if (n < 1 || n > 60 || what < 0 || what > 1) {
                return -1;
            }
            if (size() == 0) {
                return -2;
            }
            List<Integer> voiceOf = new ArrayList<>(voices);
            BigInteger now = BigInteger.valueOf(seed);
            int sum = 0;
            for (int i = 0; i < n; i++) {
                now = onward(now);
                int b = bits(now) % size();
                now = onward(now);
                voiceOf.set(b, bits(now) % 10);
                sum += Integer.bitCount(fled(noise(tower, voiceOf)));
            }
            return what == 0 ? sum : noise(tower, voiceOf);
        }

        BigInteger onward(BigInteger seed) {
            BigInteger grown = seed.multiply(BigInteger.valueOf(1103515245)).add(BigInteger.valueOf(12345));
            return grown.mod(BigInteger.ONE.shiftLeft(32));
        }

        int bits(BigInteger seed) {
            int found = 0;
            for (int i = 16; i <= 30; i++) {
                found |= seed.testBit(i) ? 1 << (i - 16) : 0;
            }
            return found;
        }

        int keep(int k) {
            if (k < 0 || k > 1) {
                return -1;
            }
            int was = images[k] == null ? 0 : 1;
            images[k] = new Model();
            images[k].take(this);
            return was;
        }

        int back(int k) {
            if (k < 0 || k > 1) {
                return -1;
            }
            if (images[k] == null) {
                return -2;
            }
            take(images[k]);
            return tower.size();
        }

        int sheet(int k, int lane, int n) {
            if (k < 0 || k > 3 || lane < 0 || lane > 2 || n > 40) {
                return -1;
            }
            try {
                sheets[k] = lane == 0 ? new byte[n] : lane == 1 ? new short[n] : (Object) new int[n];
                return 1;
            } catch (NegativeArraySizeException e) {
                return -14;
            }
        }

        int lay(int k, int i, int v) {
            if (k < 0 || k > 3) {
                return -1;
            }
            try {
                if (sheets[k] instanceof byte[]) {
                    ((byte[]) sheets[k])[i] = (byte) v;
                } else if (sheets[k] instanceof short[]) {
                    ((short[]) sheets[k])[i] = (short) v;
                } else {
                    ((int[]) sheets[k])[i] = v;
                }
                return 1;
            } catch (NullPointerException e) {
                return -11;
            } catch (ArrayIndexOutOfBoundsException e) {
                return -12;
            }
        }

        int read(int k, int lane, int f, int n) {
            if (k < 0 || k > 3 || lane < 0 || lane > 2 || n < 0 || n > 20) {
                return -1;
            }
            List<Integer> before = new ArrayList<>(tower);
            int climbed = 0;
            int found = 0;
            try {
                for (int i = 0; i < n; i++) {
                    int b = cell(sheets[k], lane, f + i);
                    if (climb(b) < 0) {
                        tower = before;
                        return -20 - i;
                    }
                    climbed++;
                }
            } catch (NullPointerException e) {
                found = 1;
            } catch (ArrayIndexOutOfBoundsException e) {
                found = 2;
            } catch (ClassCastException e) {
                found = 3;
            }
            torn = found;
            return climbed;
        }

        private static int cell(Object sheet, int lane, int i) {
            return lane == 0 ? ((byte[]) sheet)[i] : lane == 1 ? ((short[]) sheet)[i] : ((int[]) sheet)[i];
        }

        int count(int what) {
            int cells = sheets[0] == null ? -4 : java.lang.reflect.Array.getLength(sheets[0]);
            int weight = weights.stream().mapToInt(Integer::intValue).sum();
            int courage = robbers.stream().mapToInt(Integer::intValue).sum();
            int kept = (images[0] == null ? 0 : 1) + (images[1] == null ? 0 : 1);
            int[] answers = {seen.size(), kept, tape.size(), cells, weight, courage};
            return what < 0 || what > 5 ? -1 : answers[what];
        }
    }
}
