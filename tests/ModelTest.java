import java.math.BigInteger;
import java.util.ArrayList;
import java.util.List;
import java.util.TreeSet;

/**
 * Long runs of calls, by draws of its own, answered by the class and by a second program that was
 * written from the document alone, in another way: it walks all orders one by one.
 */
public final class ModelTest {
    private static final int RUNS = 240;

    public static void main(String[] args) {
        for (int run = 1; run <= RUNS; run++) {
            new Run(run).go();
        }
        Check.end();
    }

    private static final class Run {
        private final int run;
        private long seed;
        private final WhoBowsLast x = new WhoBowsLast();
        private final Model m = new Model();
        private final int mostBows;
        private final int contracts;

        Run(int run) {
            this.run = run;
            seed = run * 7919L + 17;
            mostBows = run % 20 == 0 ? 9 : 2 + run % 6;
            contracts = run % 4;
        }

        int any(int n) {
            seed = seed * 6364136223846793005L + 1442695040888963407L;
            return (int) ((seed >>> 33) % n);
        }

        /** Mostly in from .. to, at times just outside or far away. */
        int about(int from, int to) {
            int sort = any(40);
            if (sort == 0) {
                return from - 1;
            }
            if (sort == 1) {
                return to + 1;
            }
            if (sort == 2) {
                return any(2) == 0 ? Integer.MIN_VALUE : Integer.MAX_VALUE;
            }
            return from + any(to - from + 1);
        }

        int aBow() {
            return about(0, Math.max(0, m.bows.size() - 1));
        }

        int aSet() {
            int all = (1 << m.bows.size()) - 1;
            return any(20) == 0 ? about(0, 511) : any(512) & any(512) & any(512) & all;
        }

        void go() {
            for (int b = 0; b < mostBows; b++) {
                int kind = any(7);
                tell("bow(" + kind + ")", x.bow(kind), m.bow(kind));
                tell("change love", x.change(b, 1, 7 * b % 100), m.change(b, 1, 7 * b % 100));
            }
            int searches = mostBows > 8 ? 12 : 60;
            int calls = 2 * mostBows;
            while (calls < 512) {
                int sort = any(100);
                calls++;
                if (sort < 14 && searches > 0) {
                    searches--;
                    search();
                } else if (sort < 34) {
                    changes();
                } else if (sort < 54) {
                    stage();
                } else if (sort < 64) {
                    small();
                } else if (sort < 74) {
                    // A text takes up to 31 calls.
                    if (calls + 31 < 512) {
                        calls += text();
                    }
                } else if (sort < 92) {
                    sheets();
                } else {
                    images();
                }
            }
        }

        void tell(String call, long got, long want) {
            Check.due("run " + run + ": " + call, got, want);
        }

        void search() {
            int b = aBow();
            int a = aBow();
            int w = about(0, 1);
            int i = about(0, 8);
            switch (any(12)) {
                case 0: tell("best(" + w + ")", x.best(w), m.best(w)); break;
                case 1: tell("ith(" + w + "," + i + ")", x.ith(w, i), m.ith(w, i)); break;
                case 2: tell("ways()", x.ways(), m.ways()); break;
                case 3: tell("lasts()", x.lasts(), m.lasts()); break;
                case 4: tell("place(" + b + "," + w + ")", x.place(b, w), m.place(b, w)); break;
                case 5: tell("all(" + b + ")", x.all(b), m.all(b)); break;
                case 6: tell("clash()", x.clash(), m.clash()); break;
                case 7: tell("broken()", x.broken(), m.broken()); break;
                case 8: tell("between(" + a + "," + b + ")", x.between(a, b), m.between(a, b)); break;
                case 9: tell("kindFor(" + b + ")", x.kindFor(b), m.kindFor(b)); break;
                case 10:
                    tell("freed()", x.freed(), m.freed(true));
                    tell("free()", x.free(), m.freed(false));
                    break;
                default: tell("train()", x.train(), m.train()); break;
            }
        }

        void changes() {
            int a = aBow();
            int b = aBow();
            switch (any(7)) {
                case 0: {
                    int k = about(0, 6);
                    if (m.bows.size() < mostBows || any(30) == 0) {
                        tell("bow(" + k + ")", x.bow(k), m.bow(k));
                    }
                    break;
                }
                case 1: {
                    int what = about(0, 2);
                    int v = what == 0 ? about(0, 6) : what == 1 ? about(0, 99) : about(1, 60);
                    tell("change(" + b + "," + what + "," + v + ")", x.change(b, what, v), m.change(b, what, v));
                    break;
                }
                case 2: {
                    int v = any(3) < contracts ? aSet() : 0;
                    tell("change(" + b + ",3," + v + ")", x.change(b, 3, v), m.change(b, 3, v));
                    break;
                }
                case 3:
                case 4: {
                    int is = any(10) == 0 ? about(0, 1) : any(4) < contracts ? 1 : 0;
                    tell("contract(" + a + "," + b + "," + is + ")", x.contract(a, b, is), m.contract(a, b, is));
                    break;
                }
                case 5: {
                    int what = about(0, 4);
                    int v = what == 0 ? about(0, 9) : what == 1 ? about(0, 10) : what == 4 ? about(0, 120) : about(0, 99);
                    if (any(20) == 0) {
                        v = about(0, 999);
                    }
                    tell("rule(" + what + "," + v + ")", x.rule(what, v), m.rule(what, v));
                    break;
                }
                default: {
                    int p = about(0, 999);
                    int q = any(2) == 0 ? p : about(0, 120);
                    tell("noise(" + b + "," + q + ")", x.noise(b, q), m.noise(b, q));
                    break;
                }
            }
        }

        void stage() {
            int b = aBow();
            switch (any(10)) {
                case 0:
                case 1: tell("come(" + b + ")", x.come(b), m.come(b)); break;
                case 2: tell("back()", x.back(), m.back()); break;
                case 3:
                    if (any(4) == 0) {
                        tell("clear()", x.clear(), m.clear());
                    }
                    break;
                case 4: {
                    int i = about(0, 8);
                    tell("stood(" + i + ")", x.stood(i), m.stood(i));
                    break;
                }
                case 5:
                case 6: {
                    int what = about(0, 5);
                    tell("now(" + what + ")", x.now(what), m.now(what));
                    break;
                }
                case 7:
                case 8: {
                    int what = about(0, 6);
                    tell("of(" + b + "," + what + ")", x.of(b, what), m.of(b, what));
                    break;
                }
                default:
                    if (any(4) == 0) {
                        tell("lot()", x.lot(), m.lot());
                    }
                    break;
            }
        }

        void small() {
            int b = aBow();
            int p = any(2) == 0 ? about(0, 120) : about(0, 999);
            int v = about(0, 140);
            switch (any(6)) {
                case 0: tell("fits(" + b + "," + p + "," + v + ")", x.fits(b, p, v), m.fits(b, p, v)); break;
                case 1: tell("love(" + b + "," + p + "," + v + ")", x.love(b, p, v), m.love(b, p, v)); break;
                case 2: {
                    int c = about(0, 8);
                    int w = about(0, 1);
                    tell("curtain(" + c + "," + w + ")", x.curtain(c, w), m.curtain(c, w));
                    break;
                }
                case 3: tell("stop()", x.stop(), m.stop()); break;
                case 4: {
                    int n = about(1, 8);
                    tell("evening(" + n + ")", x.evening(n), m.evening(n));
                    break;
                }
                default: {
                    int z = any(5) == 0 ? about(0, 9) : any(Integer.MAX_VALUE) - any(Integer.MAX_VALUE);
                    tell("seed(" + z + ")", x.seed(z), m.seed(z));
                    break;
                }
            }
        }

        int text() {
            int calls = 0;
            if (any(12) == 0) {
                int n = about(1, 4);
                int v = any(Integer.MAX_VALUE);
                tell("feed(" + v + "," + n + ")", x.feed(v, n), m.feed(v, n));
                if (any(2) == 0) {
                    tell("wipe()", x.wipe(), m.wipe());
                }
                return 2;
            }
            String text = aText();
            for (int i = 0; i < text.length(); i += 4) {
                int n = Math.min(4, text.length() - i);
                int bytes = any(256);
                for (int k = 0; k < n; k++) {
                    bytes = bytes << 8 | text.charAt(i + k);
                }
                calls++;
                tell("feed(" + bytes + "," + n + ")", x.feed(bytes, n), m.feed(bytes, n));
            }
            tell("text() of " + text, x.text(), m.text());
            return calls + 1;
        }

        String aText() {
            StringBuilder t = new StringBuilder();
            int items = 1 + any(4);
            for (int i = 0; i < items; i++) {
                if (i > 0) {
                    t.append(blanks()).append(any(30) == 0 ? "" : ";").append(blanks());
                }
                item(t);
            }
            if (any(10) == 0) {
                t.append(any(2) == 0 ? " " : ";");
            }
            if (any(10) == 0 && t.length() > 0) {
                t.setCharAt(any(t.length()), (char) (any(2) == 0 ? any(256) : " ;09az".charAt(any(6))));
            }
            return t.length() > 100 ? t.substring(0, 100) : t.toString();
        }

        String blanks() {
            return any(4) == 0 ? "  ".substring(any(2)) : "";
        }

        void item(StringBuilder t) {
            String[] kinds = {"bow", "rowed", "rising", "falling", "last", "shielded", "child"};
            String[] rules = {"tires", "silent", "gain", "loss", "train"};
            int[] most = {9, 10, 99, 99, 999};
            int sort = any(8);
            if (sort < 3 && (m.bows.size() < mostBows || any(6) == 0)) {
                t.append(kinds[any(7)]);
                if (any(2) == 0) {
                    t.append(" love ").append(Math.abs(about(0, 99) % 2000));
                }
                if (any(2) == 0) {
                    t.append(" seconds ").append(Math.abs(about(1, 60) % 2000));
                }
                if (any(3) == 0) {
                    t.append(" ahead ").append(any(3) == 0 ? aSet() & 1023 : 0);
                }
            } else if (sort < 5 && contracts > 0) {
                t.append("contract ").append(Math.abs(aBow() % 2000)).append(' ').append(Math.abs(aBow() % 2000));
            } else {
                int r = any(5);
                t.append(rules[r]).append(blanks()).append(Math.abs(about(0, most[r]) % 2000));
            }
        }

        void sheets() {
            int s = any(2) == 0 ? 0 : about(0, 3);
            int t = about(0, 3);
            int i = about(0, 6);
            switch (any(10)) {
                case 0: {
                    int bits = any(15) == 0 ? about(0, 33) : 8 << any(3);
                    if (any(12) == 0) {
                        bits = 0;
                    }
                    int n = any(8) == 0 ? about(0, 40) : any(7);
                    tell("sheet(" + s + "," + bits + "," + n + ")", x.sheet(s, bits, n), m.sheet(s, bits, n));
                    break;
                }
                case 1:
                case 2:
                case 3: {
                    int v = any(5) == 0 ? any(Integer.MAX_VALUE) - any(Integer.MAX_VALUE) : aBow();
                    tell("write(" + s + "," + i + "," + v + ")", x.write(s, i, v), m.write(s, i, v));
                    break;
                }
                case 4: {
                    int to = about(0, 6);
                    int n = about(0, 6);
                    tell("copy(" + s + "," + i + "," + t + "," + to + "," + n + ")",
                        x.copy(s, i, t, to, n), m.copy(s, i, t, to, n));
                    break;
                }
                case 5: tell("load(" + s + ")", x.load(s), m.load(s)); break;
                case 6: tell("judge(" + s + ")", x.judge(s), m.judge(s)); break;
                case 7: tell("loud(" + s + ")", x.loud(s), m.loud(s)); break;
                case 8: {
                    int spot = about(0, 9);
                    int b = about(-1, m.bows.size() - 1);
                    tell("hold(" + spot + "," + b + ")", x.hold(spot, b), m.hold(spot, b));
                    break;
                }
                default: {
                    int spot = about(0, 9);
                    int k = about(0, 6);
                    tell("as(" + spot + "," + k + ")", x.as(spot, k), m.as(spot, k));
                    break;
                }
            }
        }

        void images() {
            switch (any(8)) {
                case 0: tell("image()", x.image(), m.image()); break;
                case 1:
                case 2: tell("undo()", x.undo(), m.undo()); break;
                case 3: tell("tear()", x.tear(), m.tear()); break;
                case 4: {
                    int which = about(-1, 6);
                    tell("status(" + which + ")", x.status(which), m.status(which));
                    break;
                }
                default: {
                    int what = about(0, 7);
                    tell("count(" + what + ")", x.count(what), m.count(what));
                    break;
                }
            }
        }
    }

    private static final class Bow {
        int kind;
        int love = 10;
        int seconds = 5;
        TreeSet<Integer> ahead = new TreeSet<>();

        Bow copy() {
            Bow b = new Bow();
            b.kind = kind;
            b.love = love;
            b.seconds = seconds;
            b.ahead = new TreeSet<>(ahead);
            return b;
        }
    }

    private static final class Model {
        private static final int[] PARENT = {-1, 0, 0, 2, 3, 0, 5};
        List<Bow> bows = new ArrayList<>();
        int[] rules = {1, 1, 20, 30, 60};
        List<Integer> stage = new ArrayList<>();
        List<Integer> noises = new ArrayList<>();
        List<Integer> times = new ArrayList<>();
        int z = 1;
        Integer[] spots = new Integer[10];
        String tape = "";
        int[][] sheets = new int[4][];
        int[] bits = new int[4];
        Model kept;
        long[] found = new long[7];

        long low(int which) {
            found[which]++;
            return -1000001L - which;
        }

        long beyond() {
            return low(0);
        }

        boolean is(int b) {
            return 0 <= b && b < bows.size();
        }

        static int noiseAs(int kind, int love, int p) {
            switch (kind) {
                case 0: return love;
                case 1: return noiseAs(0, love, p) / 4;
                case 2: return noiseAs(0, love, p) + p / 10;
                case 3: {
                    int less = p > love ? p - love : 0;
                    int left = noiseAs(2, love, p) - less;
                    return left < 0 ? 0 : left;
                }
                case 4: return noiseAs(3, love, p) * 2;
                case 5: return noiseAs(0, love, p) + 5;
                default: return noiseAs(5, love, p) + 20;
            }
        }

        static int leavesAs(int kind, int love) {
            switch (kind) {
                case 0: return love;
                case 1: return 0;
                case 2: return leavesAs(0, love);
                case 3: return leavesAs(2, love);
                case 4: return leavesAs(3, love) * 2;
                case 5: return 0;
                default: return leavesAs(5, love) + 50;
            }
        }

        static int lastsAs(int kind, int seconds) {
            switch (kind) {
                case 0: return seconds;
                case 1: return seconds / 4 < 1 ? 1 : seconds / 4;
                case 2: return lastsAs(0, seconds);
                case 3: return lastsAs(2, seconds) + 1;
                case 4: return lastsAs(3, seconds) + 5;
                case 5: return lastsAs(0, seconds);
                default: return lastsAs(5, seconds) / 2 < 1 ? 1 : lastsAs(5, seconds) / 2;
            }
        }

        int noiseOf(int b, int p) {
            return noiseAs(bows.get(b).kind, bows.get(b).love, p);
        }

        int leaves(int b) {
            return leavesAs(bows.get(b).kind, bows.get(b).love);
        }

        int lastsOf(int b) {
            return lastsAs(bows.get(b).kind, bows.get(b).seconds);
        }

        int latest() {
            return stage.isEmpty() ? 0 : leaves(stage.get(stage.size() - 1));
        }

        int bits(Iterable<Integer> set) {
            int v = 0;
            for (int b : set) {
                v += 1 << b;
            }
            return v;
        }

        long bow(int kind) {
            if (kind < 0 || kind > 6) {
                return beyond();
            }
            if (bows.size() == 9) {
                return low(1);
            }
            Bow b = new Bow();
            b.kind = kind;
            bows.add(b);
            return bows.size() - 1;
        }

        long of(int b, int what) {
            if (!is(b) || what < 0 || what > 6) {
                return beyond();
            }
            Bow o = bows.get(b);
            long[] told = {o.kind, o.love, o.seconds, bits(o.ahead), leaves(b), lastsOf(b), noiseOf(b, latest())};
            return told[what];
        }

        long change(int b, int what, int v) {
            if (!is(b) || what < 0 || what > 3) {
                return beyond();
            }
            Bow o = bows.get(b);
            int[] least = {0, 0, 1, 0};
            int[] most = {6, 99, 60, (1 << bows.size()) - 1};
            if (v < least[what] || v > most[what] || what == 3 && (v >> b & 1) == 1) {
                return beyond();
            }
            long was = of(b, what);
            if (what == 0) {
                o.kind = v;
            } else if (what == 1) {
                o.love = v;
            } else if (what == 2) {
                o.seconds = v;
            } else {
                o.ahead.clear();
                for (int a = 0; a < 9; a++) {
                    if ((v >> a & 1) == 1) {
                        o.ahead.add(a);
                    }
                }
            }
            return was;
        }

        long contract(int a, int b, int is) {
            if (!is(a) || !is(b) || a == b || is != 0 && is != 1) {
                return beyond();
            }
            return (is == 1 ? bows.get(b).ahead.add(a) : bows.get(b).ahead.remove(a)) ? 1 : 0;
        }

        long rule(int what, int v) {
            int[] most = {9, 10, 99, 99, 999};
            if (what < 0 || what > 4 || v < 0 || v > most[what]) {
                return beyond();
            }
            int was = rules[what];
            rules[what] = v;
            return was;
        }

        long noise(int b, int p) {
            return is(b) && p >= 0 && p <= 999 ? noiseOf(b, p) : beyond();
        }

        boolean can(int b) {
            return !stage.contains(b) && stage.containsAll(bows.get(b).ahead);
        }

        long come(int b) {
            if (!is(b)) {
                return beyond();
            }
            if (!can(b)) {
                return low(4);
            }
            int noise = noiseOf(b, latest());
            stage.add(b);
            noises.add(noise);
            times.add(lastsOf(b));
            return noise;
        }

        long back() {
            if (stage.isEmpty()) {
                return low(3);
            }
            int end = stage.size() - 1;
            noises.remove(end);
            times.remove(end);
            return stage.remove(end);
        }

        long clear() {
            int had = stage.size();
            stage.clear();
            noises.clear();
            times.clear();
            return had;
        }

        long stood(int i) {
            return i < 0 ? beyond() : i >= stage.size() ? low(3) : stage.get(i);
        }

        int sum(List<Integer> row) {
            int together = 0;
            for (int v : row) {
                together += v;
            }
            return together;
        }

        List<Integer> comers() {
            List<Integer> set = new ArrayList<>();
            for (int b = 0; b < bows.size(); b++) {
                if (can(b)) {
                    set.add(b);
                }
            }
            return set;
        }

        int falls(int p, List<Integer> row) {
            int falls = 0;
            for (int b : row) {
                falls += p > bows.get(b).love ? 1 : 0;
                p = leaves(b);
            }
            return falls;
        }

        int together(int p, List<Integer> row) {
            int together = 0;
            for (int b : row) {
                together += noiseOf(b, p);
                p = leaves(b);
            }
            return together;
        }

        long now(int what) {
            switch (what) {
                case 0: return stage.size();
                case 1: return sum(noises);
                case 2: return sum(times);
                case 3: return bits(stage);
                case 4: return bits(comers());
                case 5: return falls(0, stage);
                default: return beyond();
            }
        }

        /** All orders of the rest that keep contracts, the least first. */
        List<List<Integer>> allWays() {
            List<List<Integer>> found = new ArrayList<>();
            walk(new ArrayList<>(), found);
            return found;
        }

        void walk(List<Integer> row, List<List<Integer>> found) {
            if (row.size() + stage.size() == bows.size()) {
                found.add(new ArrayList<>(row));
                return;
            }
            for (int b = 0; b < bows.size(); b++) {
                if (stage.contains(b) || row.contains(b)) {
                    continue;
                }
                boolean keeps = true;
                for (int a : bows.get(b).ahead) {
                    keeps &= stage.contains(a) || row.contains(a);
                }
                if (keeps) {
                    row.add(b);
                    walk(row, found);
                    row.remove(row.size() - 1);
                }
            }
        }

        List<Integer> firstBest(int what) {
            List<Integer> best = null;
            int least = 0;
            int p = latest();
            for (List<Integer> way : allWays()) {
                int bad = what == 0 ? -together(p, way) : falls(p, way);
                if (best == null || bad < least) {
                    best = way;
                    least = bad;
                }
            }
            return best;
        }

        long best(int what) {
            if (what != 0 && what != 1) {
                return beyond();
            }
            List<Integer> way = firstBest(what);
            return way == null ? low(3) : what == 0 ? together(latest(), way) : falls(latest(), way);
        }

        long ith(int what, int i) {
            if (what != 0 && what != 1 || i < 0) {
                return beyond();
            }
            List<Integer> way = firstBest(what);
            return way == null || i >= way.size() ? low(3) : way.get(i);
        }

        long ways() {
            return allWays().size();
        }

        long lasts() {
            TreeSet<Integer> set = new TreeSet<>();
            for (List<Integer> way : allWays()) {
                if (!way.isEmpty()) {
                    set.add(way.get(way.size() - 1));
                }
            }
            return bits(set);
        }

        long place(int b, int what) {
            if (!is(b) || what != 0 && what != 1) {
                return beyond();
            }
            if (stage.contains(b)) {
                return low(4);
            }
            int least = 99;
            int most = -1;
            for (List<Integer> way : allWays()) {
                least = Math.min(least, way.indexOf(b));
                most = Math.max(most, way.indexOf(b));
            }
            return most < 0 ? low(3) : what == 0 ? least : most;
        }

        TreeSet<Integer> before(int b) {
            TreeSet<Integer> set = new TreeSet<>(bows.get(b).ahead);
            int had;
            do {
                had = set.size();
                for (int a : new ArrayList<>(set)) {
                    set.addAll(bows.get(a).ahead);
                }
            } while (set.size() > had);
            return set;
        }

        long all(int b) {
            return is(b) ? bits(before(b)) : beyond();
        }

        long clash() {
            int set = 0;
            for (int b = 0; b < bows.size(); b++) {
                set |= before(b).contains(b) ? 1 << b : 0;
            }
            return set;
        }

        long broken() {
            return fewest(new ArrayList<>(), 0, Integer.MAX_VALUE);
        }

        int fewest(List<Integer> row, int broken, int least) {
            if (broken >= least) {
                return least;
            }
            if (row.size() == bows.size()) {
                return broken;
            }
            for (int b = 0; b < bows.size(); b++) {
                if (!row.contains(b)) {
                    int more = 0;
                    for (int a : bows.get(b).ahead) {
                        more += row.contains(a) ? 0 : 1;
                    }
                    row.add(b);
                    least = fewest(row, broken + more, least);
                    row.remove(row.size() - 1);
                }
            }
            return least;
        }

        long between(int a, int b) {
            if (!is(a) || !is(b) || a == b) {
                return beyond();
            }
            int who = -1;
            int most = 0;
            for (int c = 0; c < bows.size(); c++) {
                if (c != a && c != b) {
                    int got = together(leaves(a), List.of(c, b));
                    if (who < 0 || got > most) {
                        who = c;
                        most = got;
                    }
                }
            }
            return who < 0 ? low(3) : who;
        }

        long kindFor(int b) {
            if (!is(b)) {
                return beyond();
            }
            int was = bows.get(b).kind;
            int best = -1;
            int most = 0;
            for (int k = 0; k < 7; k++) {
                bows.get(b).kind = k;
                List<Integer> way = firstBest(0);
                if (way != null && (best < 0 || together(latest(), way) > most)) {
                    best = k;
                    most = together(latest(), way);
                }
            }
            bows.get(b).kind = was;
            return best < 0 ? low(3) : best;
        }

        long freed(boolean which) {
            int best = -1;
            int most = 0;
            for (int number = 0; number < 100; number++) {
                int a = number / 10;
                int b = number % 10;
                if (is(a) && is(b) && bows.get(b).ahead.remove(a)) {
                    List<Integer> way = firstBest(0);
                    if (way != null && (best < 0 || together(latest(), way) > most)) {
                        best = number;
                        most = together(latest(), way);
                    }
                    bows.get(b).ahead.add(a);
                }
            }
            return best < 0 ? low(3) : which ? best : most;
        }

        long train() {
            List<Integer> way = firstBest(0);
            if (way == null) {
                return low(3);
            }
            int clock = sum(times);
            int many = 0;
            while (many < way.size() && clock + lastsOf(way.get(many)) <= rules[4]) {
                clock += lastsOf(way.get(many));
                many++;
            }
            return many;
        }

        List<Integer> lovesBy(int b, int p, int v) {
            List<Integer> loves = new ArrayList<>();
            for (int love = 0; love < 100; love++) {
                if (noiseAs(bows.get(b).kind, love, p) == v) {
                    loves.add(love);
                }
            }
            return loves;
        }

        long fits(int b, int p, int v) {
            return !is(b) || p < 0 || p > 999 ? beyond() : lovesBy(b, p, v).size();
        }

        long love(int b, int p, int v) {
            if (!is(b) || p < 0 || p > 999) {
                return beyond();
            }
            List<Integer> loves = lovesBy(b, p, v);
            return loves.isEmpty() ? low(3) : loves.get(0);
        }

        /** Above and below the line, in lowest terms. */
        BigInteger[] worth(int c) {
            if (c > 7) {
                return new BigInteger[] {BigInteger.ZERO, BigInteger.ONE};
            }
            BigInteger[] then = worth(c + 1);
            long silent = Math.min(10, (long) rules[1] * c);
            BigInteger won = then[0].add(then[1].multiply(BigInteger.valueOf(rules[2] - (long) c * rules[0])));
            BigInteger lost = then[1].multiply(BigInteger.valueOf(rules[3]));
            BigInteger above = won.multiply(BigInteger.valueOf(10 - silent)).subtract(lost.multiply(BigInteger.valueOf(silent)));
            if (above.signum() <= 0) {
                return new BigInteger[] {BigInteger.ZERO, BigInteger.ONE};
            }
            BigInteger below = then[1].multiply(BigInteger.TEN);
            BigInteger common = above.gcd(below);
            return new BigInteger[] {above.divide(common), below.divide(common)};
        }

        long curtain(int c, int what) {
            return c < 0 || c > 8 || what != 0 && what != 1 ? beyond() : worth(c)[what].longValueExact();
        }

        long stop() {
            int c = 0;
            while (worth(c)[0].signum() != 0) {
                c++;
            }
            return c;
        }

        int draw() {
            z = z * 1103515245 + 12345;
            return z >>> 8;
        }

        long evening(int n) {
            if (n < 1 || n > 8) {
                return beyond();
            }
            int won = 0;
            for (int c = 0; c < n; c++) {
                if (draw() % 10 < rules[1] * c) {
                    return won - rules[3];
                }
                won += rules[2] - c * rules[0];
            }
            return won;
        }

        long lot() {
            int many = 0;
            while (!comers().isEmpty()) {
                List<Integer> set = comers();
                come(set.get(draw() % set.size()));
                many++;
            }
            return many;
        }

        long seed(int v) {
            int was = z;
            z = v;
            return was;
        }

        long feed(int bytes, int n) {
            if (n < 1 || n > 4) {
                return beyond();
            }
            if (tape.length() + n > 120) {
                return low(1);
            }
            String more = "";
            for (int i = 0; i < n; i++) {
                more = (char) (bytes >> 8 * i & 0xff) + more;
            }
            tape += more;
            return tape.length();
        }

        long wipe() {
            int had = tape.length();
            tape = "";
            return had;
        }

        /** The places and spellings of the tokens; a fault is thrown as an int in an exception. */
        private int at;
        private List<Integer> starts;
        private List<String> tokens;

        long text() {
            String t = tape;
            tape = "";
            starts = new ArrayList<>();
            tokens = new ArrayList<>();
            java.util.regex.Matcher cut = java.util.regex.Pattern.compile("[a-z]+|[0-9]+|[^ ]", java.util.regex.Pattern.DOTALL).matcher(t);
            while (cut.find()) {
                starts.add(cut.start());
                tokens.add(cut.group());
            }
            starts.add(t.length());
            tokens.add("");
            at = 0;
            Model before = copy();
            int items = 0;
            boolean fine = true;
            do {
                fine = item();
                items++;
            } while (fine && tokens.get(at).equals(";") && ++at > 0);
            if (!fine || !tokens.get(at).isEmpty()) {
                takeBack(before);
                return -1 - starts.get(at);
            }
            return items;
        }

        /** The number at hand if it is from least to most (then the next token is), else -1. */
        int number(int least, int most) {
            String t = tokens.get(at);
            if (!t.matches("[0-9]+") || new BigInteger(t).bitLength() > 20) {
                return -1;
            }
            int v = Integer.parseInt(t);
            if (v < least || v > most) {
                return -1;
            }
            at++;
            return v;
        }

        boolean item() {
            List<String> kinds = List.of("bow", "rowed", "rising", "falling", "last", "shielded", "child");
            List<String> ruled = List.of("tires", "silent", "gain", "loss", "train");
            int[] most = {9, 10, 99, 99, 999};
            String t = tokens.get(at);
            if (kinds.contains(t)) {
                if (bows.size() == 9) {
                    return false;
                }
                int b = (int) bow(kinds.indexOf(t));
                at++;
                String[] words = {"", "love", "seconds", "ahead"};
                for (int what = 1; what <= 3; what++) {
                    if (tokens.get(at).equals(words[what])) {
                        at++;
                        int v = what == 1 ? number(0, 99) : what == 2 ? number(1, 60) : number(0, (1 << b) - 1);
                        if (v < 0) {
                            return false;
                        }
                        change(b, what, v);
                    }
                }
                return true;
            }
            if (ruled.contains(t)) {
                at++;
                int v = number(0, most[ruled.indexOf(t)]);
                if (v >= 0) {
                    rule(ruled.indexOf(t), v);
                }
                return v >= 0;
            }
            if (!t.equals("contract")) {
                return false;
            }
            at++;
            int a = number(0, bows.size() - 1);
            if (a < 0) {
                return false;
            }
            int b = number(0, bows.size() - 1);
            if (b == a) {
                at--;
            }
            if (b < 0 || b == a) {
                return false;
            }
            contract(a, b, 1);
            return true;
        }

        long hold(int spot, int b) {
            if (spot < 0 || spot > 9 || b != -1 && !is(b)) {
                return beyond();
            }
            spots[spot] = b == -1 ? null : b;
            return 1;
        }

        long as(int spot, int kind) {
            if (spot < 0 || spot > 9 || kind < 0 || kind > 6) {
                return beyond();
            }
            if (spots[spot] == null) {
                return low(5);
            }
            int k = bows.get(spots[spot]).kind;
            while (k >= 0 && k != kind) {
                k = PARENT[k];
            }
            return k < 0 ? low(2) : spots[spot];
        }

        long sheet(int s, int width, int n) {
            if (s < 0 || s > 3 || !List.of(0, 8, 16, 32).contains(width)) {
                return beyond();
            }
            if (n < 0) {
                return low(6);
            }
            if (n > 40) {
                return beyond();
            }
            bits[s] = width;
            sheets[s] = width == 0 ? null : new int[n];
            return width == 0 ? 0 : n;
        }

        int low(int s, int code) {
            if (s < 0 || s > 3) {
                return (int) beyond();
            }
            return sheets[s] == null ? (int) low(5) : code;
        }

        long write(int s, int i, int v) {
            if (low(s, 0) != 0) {
                return s < 0 || s > 3 ? -1000001 : -1000006;
            }
            if (i < 0 || i >= sheets[s].length) {
                return beyond();
            }
            sheets[s][i] = bits[s] == 8 ? (byte) v : bits[s] == 16 ? (short) v : v;
            return 1;
        }

        long copy(int s, int from, int t, int to, int n) {
            if (s < 0 || s > 3 || t < 0 || t > 3) {
                return beyond();
            }
            if (sheets[s] == null || sheets[t] == null) {
                return low(5);
            }
            if (bits[s] != bits[t]) {
                return low(2);
            }
            if (from < 0 || to < 0 || n < 0 || (long) from + n > sheets[s].length || (long) to + n > sheets[t].length) {
                return beyond();
            }
            int[] row = sheets[s].clone();
            for (int i = 0; i < n; i++) {
                sheets[t][to + i] = row[from + i];
            }
            return n;
        }

        long load(int s) {
            int wrong = low(s, 0);
            if (wrong != 0) {
                return wrong;
            }
            int many = 0;
            for (int v : sheets[s]) {
                if (v < 0 || v > 99 || many >= bows.size()) {
                    break;
                }
                bows.get(many++).love = v;
            }
            return many;
        }

        /** The place of the first that can't come, or -1. */
        int firstWrong(int s) {
            List<Integer> row = new ArrayList<>(stage);
            for (int i = 0; i < sheets[s].length; i++) {
                int b = sheets[s][i];
                if (!is(b) || row.contains(b) || !row.containsAll(bows.get(b).ahead)) {
                    return i;
                }
                row.add(b);
            }
            return -1;
        }

        long judge(int s) {
            int wrong = low(s, 0);
            return wrong != 0 ? wrong : 1 + firstWrong(s);
        }

        long loud(int s) {
            int wrong = low(s, 0);
            if (wrong != 0) {
                return wrong;
            }
            if (firstWrong(s) >= 0) {
                return low(4);
            }
            List<Integer> row = new ArrayList<>();
            for (int b : sheets[s]) {
                row.add(b);
            }
            return sum(noises) + together(latest(), row);
        }

        Model copy() {
            Model c = new Model();
            c.takeBack(this);
            return c;
        }

        void takeBack(Model o) {
            bows = new ArrayList<>();
            for (Bow b : o.bows) {
                bows.add(b.copy());
            }
            rules = o.rules.clone();
            stage = new ArrayList<>(o.stage);
            noises = new ArrayList<>(o.noises);
            times = new ArrayList<>(o.times);
            z = o.z;
            spots = o.spots.clone();
        }

        long image() {
            kept = copy();
            return 1;
        }

        long undo() {
            if (kept == null) {
                return low(3);
            }
            takeBack(kept);
            return stage.size();
        }

        long tear() {
            boolean was = kept != null;
            kept = null;
            return was ? 1 : 0;
        }

        long count(int what) {
            int contracts = 0;
            int loves = 0;
            for (Bow b : bows) {
                contracts += b.ahead.size();
                loves += b.love;
            }
            int held = 0;
            for (Integer spot : spots) {
                held += spot == null ? 0 : 1;
            }
            long[] told = {stage.size(), bows.size(), contracts, sum(noises), loves, tape.length(), z, held};
            return what < 0 || what > 7 ? beyond() : told[what];
        }

        long status(int which) {
            if (which < -1 || which > 6) {
                return beyond();
            }
            if (which >= 0) {
                return found[which];
            }
            long all = 0;
            for (long f : found) {
                all += f;
            }
            return all;
        }
    }
}
