/**
 * Who bows last: bows of kinds, contracts of who comes ahead of whom, the stage, orders, curtains,
 * texts, sheets and images. What each method must do stands, by numbered promises, in DOC.md.
 */
public final class WhoBowsLast {

    private static final int MOST_BOWS = 9;
    private static final int MOST_SETS = 1 << MOST_BOWS;
    private static final int KINDS = 7;
    private static final int RULES = 5;
    private static final int MOST_LOVE = 99;
    private static final int MOST_SECONDS = 60;
    private static final int MOST_P = 999;
    private static final int[] MOST_OF_RULE = {9, 10, 99, 99, 999};
    private static final int TIRES = 0;
    private static final int SILENT = 1;
    private static final int GAIN = 2;
    private static final int LOSS = 3;
    private static final int TRAIN = 4;
    private static final int CURTAINS = 8;
    private static final int TENTHS = 10;
    private static final int SPOTS = 10;
    private static final int NOTHING = -1;
    private static final int MOST_NOISE = 0;
    private static final int FEWEST_FALLS = 1;

    private static final int LOW = -1000001;
    private static final int FINE = -1;
    private static final int BEYOND = 0;
    private static final int FULL = 1;
    private static final int KIND = 2;
    private static final int NONE = 3;
    private static final int STATE = 4;
    private static final int MISSING = 5;
    private static final int SIZE = 6;
    private static final int FINDINGS = 7;

    private final int[] found = new int[FINDINGS];
    private final Scene scene = new Scene();
    private final Scene kept = new Scene();
    private final Scene draft = new Scene();
    private final Orders orders = new Orders();
    private final Tape tape = new Tape();
    private final Sheets sheets = new Sheets();
    private boolean isKept;

    public WhoBowsLast() {
        isKept = false;
    }

    // ---- bows, contracts, rules

    public int bow(int kind) {
        if (!isIn(kind, 0, KINDS - 1)) {
            return finding(BEYOND);
        }
        if (scene.bows >= MOST_BOWS) {
            return finding(FULL);
        }
        return scene.addBow(kind);
    }

    public int of(int bow, int what) {
        if (!scene.isBow(bow)) {
            return finding(BEYOND);
        }
        switch (what) {
            case 0:
                return scene.kinds[bow];
            case 1:
                return scene.loves[bow];
            case 2:
                return scene.seconds[bow];
            case 3:
                return scene.aheads[bow];
            case 4:
                return scene.leftBy(bow);
            case 5:
                return scene.lastedBy(bow);
            case 6:
                return scene.noiseBy(bow, scene.leftByLatest());
            default:
                return finding(BEYOND);
        }
    }

    public int change(int bow, int what, int v) {
        if (!scene.isBow(bow)) {
            return finding(BEYOND);
        }
        switch (what) {
            case 0:
                return isIn(v, 0, KINDS - 1) ? put(scene.kinds, bow, v) : finding(BEYOND);
            case 1:
                return isIn(v, 0, MOST_LOVE) ? put(scene.loves, bow, v) : finding(BEYOND);
            case 2:
                return isIn(v, 1, MOST_SECONDS) ? put(scene.seconds, bow, v) : finding(BEYOND);
            case 3:
                return scene.isSetWithout(v, bow) ? put(scene.aheads, bow, v) : finding(BEYOND);
            default:
                return finding(BEYOND);
        }
    }

    public int contract(int a, int b, int is) {
        if (!scene.isBow(a) || !scene.isBow(b) || a == b || !isIn(is, 0, 1)) {
            return finding(BEYOND);
        }
        int before = scene.aheads[b];
        int after = is == 1 ? before | 1 << a : before & ~(1 << a);
        scene.aheads[b] = after;
        return after != before ? 1 : 0;
    }

    public int rule(int what, int v) {
        if (!isIn(what, 0, RULES - 1) || !isIn(v, 0, MOST_OF_RULE[what])) {
            return finding(BEYOND);
        }
        return put(scene.rules, what, v);
    }

    public int noise(int bow, int p) {
        if (!scene.isBow(bow) || !isIn(p, 0, MOST_P)) {
            return finding(BEYOND);
        }
        return scene.noiseBy(bow, p);
    }

    // ---- the stage

    public int come(int bow) {
        if (!scene.isBow(bow)) {
            return finding(BEYOND);
        }
        if (!scene.couldCome(bow, scene.came)) {
            return finding(STATE);
        }
        return scene.enter(bow);
    }

    public int back() {
        if (scene.there == 0) {
            return finding(NONE);
        }
        return scene.leave();
    }

    public int clear() {
        int had = scene.there;
        scene.empty();
        return had;
    }

    public int stood(int i) {
        if (i < 0) {
            return finding(BEYOND);
        }
        if (i >= scene.there) {
            return finding(NONE);
        }
        return scene.stage[i];
    }

    public int now(int what) {
        switch (what) {
            case 0:
                return scene.there;
            case 1:
                return scene.heard;
            case 2:
                return scene.clock;
            case 3:
                return scene.came;
            case 4:
                return scene.comers();
            case 5:
                return scene.falls();
            default:
                return finding(BEYOND);
        }
    }

    // ---- orders (nothing changes)

    public int best(int what) {
        if (!isIn(what, MOST_NOISE, FEWEST_FALLS)) {
            return finding(BEYOND);
        }
        orders.startFrom(scene);
        if (!orders.haveWay()) {
            return finding(NONE);
        }
        int most = orders.weigh(what);
        return what == FEWEST_FALLS ? -most : most;
    }

    public int ith(int what, int i) {
        if (!isIn(what, MOST_NOISE, FEWEST_FALLS) || i < 0) {
            return finding(BEYOND);
        }
        orders.startFrom(scene);
        if (i >= orders.rest() || !orders.haveWay()) {
            return finding(NONE);
        }
        orders.findFirst(what);
        return orders.first[i];
    }

    public int ways() {
        orders.startFrom(scene);
        return orders.countWays();
    }

    public int lasts() {
        orders.startFrom(scene);
        return orders.haveWay() ? orders.lastOnes() : 0;
    }

    public int place(int bow, int what) {
        if (!scene.isBow(bow) || !isIn(what, 0, 1)) {
            return finding(BEYOND);
        }
        if (scene.hasCome(bow)) {
            return finding(STATE);
        }
        orders.startFrom(scene);
        if (!orders.haveWay()) {
            return finding(NONE);
        }
        return what == 0 ? orders.earliest(bow) : orders.latest(bow);
    }

    public int all(int bow) {
        if (!scene.isBow(bow)) {
            return finding(BEYOND);
        }
        orders.startFrom(scene);
        return orders.allAhead(bow, orders.full);
    }

    public int clash() {
        orders.startFrom(scene);
        int set = 0;
        for (int b = 0; b < scene.bows; b++) {
            set |= orders.allAhead(b, orders.full) & 1 << b;
        }
        return set;
    }

    public int broken() {
        orders.startFrom(scene);
        return orders.fewestBroken();
    }

    // ---- what helps

    public int between(int a, int b) {
        if (!scene.isBow(a) || !scene.isBow(b) || a == b) {
            return finding(BEYOND);
        }
        if (scene.bows == 2) {
            return finding(NONE);
        }
        int most = -1;
        int who = NOTHING;
        for (int c = 0; c < scene.bows; c++) {
            if (c != a && c != b) {
                int together = scene.noiseBy(c, scene.leftBy(a)) + scene.noiseBy(b, scene.leftBy(c));
                if (together > most) {
                    most = together;
                    who = c;
                }
            }
        }
        return who;
    }

    public int kindFor(int bow) {
        if (!scene.isBow(bow)) {
            return finding(BEYOND);
        }
        orders.startFrom(scene);
        if (!orders.haveWay()) {
            return finding(NONE);
        }
        return orders.bestKind(bow);
    }

    public int freed() {
        orders.startFrom(scene);
        return orders.freeOne() ? orders.freedOne : finding(NONE);
    }

    public int free() {
        orders.startFrom(scene);
        return orders.freeOne() ? orders.freedMost : finding(NONE);
    }

    public int train() {
        orders.startFrom(scene);
        if (!orders.haveWay()) {
            return finding(NONE);
        }
        orders.findFirst(MOST_NOISE);
        int clock = scene.clock;
        int intime = 0;
        for (int i = 0; i < orders.rest(); i++) {
            clock += scene.lastedBy(orders.first[i]);
            if (clock <= scene.rules[TRAIN]) {
                intime++;
            }
        }
        return intime;
    }

    // ---- unknown love

    public int fits(int bow, int p, int v) {
        if (!scene.isBow(bow) || !isIn(p, 0, MOST_P)) {
            return finding(BEYOND);
        }
        int many = 0;
        for (int love = 0; love <= MOST_LOVE; love++) {
            if (Kinds.noiseOf(scene.kinds[bow], love, p) == v) {
                many++;
            }
        }
        return many;
    }

    public int love(int bow, int p, int v) {
        if (!scene.isBow(bow) || !isIn(p, 0, MOST_P)) {
            return finding(BEYOND);
        }
        for (int love = 0; love <= MOST_LOVE; love++) {
            if (Kinds.noiseOf(scene.kinds[bow], love, p) == v) {
                return love;
            }
        }
        return finding(NONE);
    }

    // ---- curtains

    public long curtain(int c, int what) {
        if (!isIn(c, 0, CURTAINS) || !isIn(what, 0, 1)) {
            return finding(BEYOND);
        }
        long above = worth(c);
        long below = partsFrom(c);
        // The line's lower side is a power of ten, so no other factor can be common.
        for (int i = 0; i < CURTAINS; i++) {
            if (above % 2 == 0 && below % 2 == 0) {
                above /= 2;
                below /= 2;
            }
            if (above % 5 == 0 && below % 5 == 0) {
                above /= 5;
                below /= 5;
            }
        }
        return what == 0 ? above : below;
    }

    public int stop() {
        for (int c = 0; c < CURTAINS; c++) {
            if (worth(c) == 0) {
                return c;
            }
        }
        return CURTAINS;
    }

    // ---- evenings

    public int evening(int n) {
        if (!isIn(n, 1, CURTAINS)) {
            return finding(BEYOND);
        }
        int won = 0;
        for (int c = 0; c < n; c++) {
            // Every curtain draws, number 0 too, though it can't be silent.
            if (scene.draw() % TENTHS < scene.rules[SILENT] * c) {
                return won - scene.rules[LOSS];
            }
            won += gainAt(c);
        }
        return won;
    }

    public int lot() {
        int many = 0;
        for (int i = 0; i < MOST_BOWS; i++) {
            int comers = scene.comers();
            int size = Integer.bitCount(comers);
            if (size > 0) {
                scene.enter(memberOf(comers, scene.draw() % size));
                many++;
            }
        }
        return many;
    }

    public int seed(int v) {
        int was = scene.z;
        scene.z = v;
        return was;
    }

    // ---- texts

    public int feed(int bytes, int n) {
        if (!isIn(n, 1, 4)) {
            return finding(BEYOND);
        }
        if (!tape.hasRoom(n)) {
            return finding(FULL);
        }
        return tape.append(bytes, n);
    }

    public int wipe() {
        return tape.empty();
    }

    public int text() {
        // A draft takes what is read, so that a FAULT leaves the scene as it was.
        draft.become(scene);
        int answer = tape.readOnto(draft);
        if (answer >= 0) {
            scene.become(draft);
        }
        tape.empty();
        return answer;
    }

    // ---- spots, sheets

    public int hold(int spot, int bow) {
        if (!isIn(spot, 0, SPOTS - 1) || bow != NOTHING && !scene.isBow(bow)) {
            return finding(BEYOND);
        }
        scene.spots[spot] = bow;
        return 1;
    }

    public int as(int spot, int kind) {
        if (!isIn(spot, 0, SPOTS - 1) || !isIn(kind, 0, KINDS - 1)) {
            return finding(BEYOND);
        }
        int bow = scene.spots[spot];
        if (!scene.isBow(bow)) {
            return finding(MISSING);
        }
        if (!Kinds.isUnder(scene.kinds[bow], kind)) {
            return finding(KIND);
        }
        return bow;
    }

    public int sheet(int s, int bits, int n) {
        if (!sheets.isSheet(s) || bits != 0 && bits != 8 && bits != 16 && bits != 32) {
            return finding(BEYOND);
        }
        if (n < 0) {
            return finding(SIZE);
        }
        if (n > Sheets.MOST_NUMBERS) {
            return finding(BEYOND);
        }
        return sheets.lay(s, bits, n);
    }

    public int write(int s, int i, int v) {
        int wrong = sheets.wrongWith(s);
        if (wrong != FINE) {
            return finding(wrong);
        }
        if (!isIn(i, 0, sheets.sizes[s] - 1)) {
            return finding(BEYOND);
        }
        sheets.set(s, i, v);
        return 1;
    }

    public int copy(int s, int from, int t, int to, int n) {
        if (!sheets.isSheet(s) || !sheets.isSheet(t)) {
            return finding(BEYOND);
        }
        if (sheets.wrongWith(s) != FINE || sheets.wrongWith(t) != FINE) {
            return finding(MISSING);
        }
        if (sheets.bits[s] != sheets.bits[t]) {
            return finding(KIND);
        }
        if (!sheets.hasPart(s, from, n) || !sheets.hasPart(t, to, n)) {
            return finding(BEYOND);
        }
        return sheets.move(s, from, t, to, n);
    }

    public int load(int s) {
        int wrong = sheets.wrongWith(s);
        if (wrong != FINE) {
            return finding(wrong);
        }
        int many = 0;
        int most = Math.min(sheets.sizes[s], scene.bows);
        while (many < most && isIn(sheets.numberAt(s, many), 0, MOST_LOVE)) {
            scene.loves[many] = sheets.numberAt(s, many);
            many++;
        }
        return many;
    }

    public int judge(int s) {
        int wrong = sheets.wrongWith(s);
        if (wrong != FINE) {
            return finding(wrong);
        }
        return firstThatCannot(s);
    }

    public int loud(int s) {
        int wrong = sheets.wrongWith(s);
        if (wrong != FINE) {
            return finding(wrong);
        }
        if (firstThatCannot(s) != 0) {
            return finding(STATE);
        }
        int heard = scene.heard;
        int p = scene.leftByLatest();
        for (int i = 0; i < sheets.sizes[s]; i++) {
            int bow = sheets.numberAt(s, i);
            heard += scene.noiseBy(bow, p);
            p = scene.leftBy(bow);
        }
        return heard;
    }

    // ---- images

    public int image() {
        kept.become(scene);
        isKept = true;
        return 1;
    }

    public int undo() {
        if (!isKept) {
            return finding(NONE);
        }
        scene.become(kept);
        return scene.there;
    }

    public int tear() {
        int was = isKept ? 1 : 0;
        isKept = false;
        return was;
    }

    public int count(int what) {
        switch (what) {
            case 0:
                return scene.there;
            case 1:
                return scene.bows;
            case 2:
                return scene.contracts();
            case 3:
                return scene.heard;
            case 4:
                return scene.lovesTogether();
            case 5:
                return tape.size;
            case 6:
                return scene.z;
            case 7:
                return scene.heldSpots();
            default:
                return finding(BEYOND);
        }
    }

    public int status(int which) {
        if (!isIn(which, -1, FINDINGS - 1)) {
            return finding(BEYOND);
        }
        if (which >= 0) {
            return found[which];
        }
        int together = 0;
        for (int i = 0; i < FINDINGS; i++) {
            together += found[i];
        }
        return together;
    }

    // ---- helpers of the calls

    /** Counts a finding and tells its number. */
    private int finding(int which) {
        found[which]++;
        return LOW - which;
    }

    private static boolean isIn(int v, int least, int most) {
        return v >= least && v <= most;
    }

    /** Sets one number of a row and tells what it was; the caller has looked at the index. */
    private static int put(int[] row, int i, int v) {
        int was = row[i];
        row[i] = v;
        return was;
    }

    /** The member of a set whose number from 0 is i, or the last one if there are not so many. */
    private static int memberOf(int set, int i) {
        int member = 0;
        int passed = 0;
        for (int b = 0; b < MOST_BOWS; b++) {
            if ((set & 1 << b) != 0 && passed <= i) {
                member = b;
                passed++;
            }
        }
        return member;
    }

    private int gainAt(int c) {
        return scene.rules[GAIN] - c * scene.rules[TIRES];
    }

    /** In how many parts of one the worth from curtain c on is told: a factor of ten for each curtain. */
    private static long partsFrom(int c) {
        long parts = 1;
        for (int i = c; i < CURTAINS; i++) {
            parts *= TENTHS;
        }
        return parts;
    }

    /** WORTH from curtain c on, in parts of which partsFrom(c) make one: so it stays whole. */
    private long worth(int c) {
        long worth = 0;
        long parts = 1;
        for (int i = CURTAINS - 1; i >= c; i--) {
            int silent = Math.min(scene.rules[SILENT] * i, TENTHS);
            long won = gainAt(i) * parts + worth;
            long lost = scene.rules[LOSS] * parts;
            worth = Math.max(0, (TENTHS - silent) * won - silent * lost);
            parts *= TENTHS;
        }
        return worth;
    }

    /** 0 if a sheet's numbers can come one behind the other, else 1 and the place of the first that can't. */
    private int firstThatCannot(int s) {
        int came = scene.came;
        for (int i = 0; i < sheets.sizes[s]; i++) {
            int bow = sheets.numberAt(s, i);
            if (!scene.isBow(bow) || !scene.couldCome(bow, came)) {
                return 1 + i;
            }
            came |= 1 << bow;
        }
        return 0;
    }

    /** What a kind makes of love, seconds and who came ahead. */
    private static final class Kinds {
        static final int ROWED = 1;
        static final int RISING = 2;
        static final int FALLING = 3;
        static final int LAST = 4;
        static final int SHIELDED = 5;
        static final int CHILD = 6;
        private static final int[] ABOVE = {0, 0, 0, 2, 3, 0, 5};

        static int noiseOf(int kind, int love, int p) {
            switch (kind) {
                case ROWED:
                    return love / 4;
                case RISING:
                    return love + p / 10;
                case FALLING:
                    return fallingNoise(love, p);
                case LAST:
                    return 2 * fallingNoise(love, p);
                case SHIELDED:
                    return love + 5;
                case CHILD:
                    return love + 5 + 20;
                default:
                    return love;
            }
        }

        private static int fallingNoise(int love, int p) {
            return Math.max(0, love + p / 10 - Math.max(0, p - love));
        }

        static int leftBy(int kind, int love) {
            switch (kind) {
                case ROWED:
                case SHIELDED:
                    return 0;
                case LAST:
                    return 2 * love;
                case CHILD:
                    return 50;
                default:
                    return love;
            }
        }

        static int lastedBy(int kind, int seconds) {
            switch (kind) {
                case ROWED:
                    return Math.max(1, seconds / 4);
                case FALLING:
                    return seconds + 1;
                case LAST:
                    return seconds + 1 + 5;
                case CHILD:
                    return Math.max(1, seconds / 2);
                default:
                    return seconds;
            }
        }

        /** Whether a kind is another one or stands under it. */
        static boolean isUnder(int kind, int other) {
            int at = kind;
            for (int i = 0; i < KINDS; i++) {
                if (at == other) {
                    return true;
                }
                at = ABOVE[at];
            }
            return false;
        }
    }

    /** All that image() keeps: bows, contracts, rules, the stage, z and the spots. */
    private static final class Scene {
        int bows;
        final int[] kinds = new int[MOST_BOWS];
        final int[] loves = new int[MOST_BOWS];
        final int[] seconds = new int[MOST_BOWS];
        final int[] aheads = new int[MOST_BOWS];
        final int[] rules = {1, 1, 20, 30, 60};
        int there;
        int came;
        int heard;
        int clock;
        final int[] stage = new int[MOST_BOWS];
        final int[] noises = new int[MOST_BOWS];
        final int[] times = new int[MOST_BOWS];
        int z = 1;
        final int[] spots = {
            NOTHING, NOTHING, NOTHING, NOTHING, NOTHING, NOTHING, NOTHING, NOTHING, NOTHING, NOTHING
        };

        void become(Scene other) {
            bows = other.bows;
            there = other.there;
            came = other.came;
            heard = other.heard;
            clock = other.clock;
            z = other.z;
            System.arraycopy(other.kinds, 0, kinds, 0, MOST_BOWS);
            System.arraycopy(other.loves, 0, loves, 0, MOST_BOWS);
            System.arraycopy(other.seconds, 0, seconds, 0, MOST_BOWS);
            System.arraycopy(other.aheads, 0, aheads, 0, MOST_BOWS);
            System.arraycopy(other.rules, 0, rules, 0, RULES);
            System.arraycopy(other.stage, 0, stage, 0, MOST_BOWS);
            System.arraycopy(other.noises, 0, noises, 0, MOST_BOWS);
            System.arraycopy(other.times, 0, times, 0, MOST_BOWS);
            System.arraycopy(other.spots, 0, spots, 0, SPOTS);
        }

        boolean isBow(int bow) {
            return bow >= 0 && bow < bows;
        }

        /** Whether v is a set of bows that are there, one of them left out. */
        boolean isSetWithout(int v, int bow) {
            return isIn(v, 0, (1 << bows) - 1) && (v & 1 << bow) == 0;
        }

        /** Adds a bow; the caller has looked whether there is room. */
        int addBow(int kind) {
            int bow = bows;
            kinds[bow] = kind;
            loves[bow] = 10;
            seconds[bow] = 5;
            aheads[bow] = 0;
            bows++;
            return bow;
        }

        int noiseBy(int bow, int p) {
            return Kinds.noiseOf(kinds[bow], loves[bow], p);
        }

        int leftBy(int bow) {
            return Kinds.leftBy(kinds[bow], loves[bow]);
        }

        int leftByLatest() {
            return there == 0 ? 0 : leftBy(stage[there - 1]);
        }

        int lastedBy(int bow) {
            return Kinds.lastedBy(kinds[bow], seconds[bow]);
        }

        boolean hasCome(int bow) {
            return (came & 1 << bow) != 0;
        }

        /** Whether a bow could come behind a set of others. */
        boolean couldCome(int bow, int others) {
            return (others & 1 << bow) == 0 && (aheads[bow] & ~others) == 0;
        }

        int comers() {
            int set = 0;
            for (int b = 0; b < bows; b++) {
                if (couldCome(b, came)) {
                    set |= 1 << b;
                }
            }
            return set;
        }

        /** Brings a bow that can come onto the stage: its noise. */
        int enter(int bow) {
            int noise = noiseBy(bow, leftByLatest());
            int time = lastedBy(bow);
            stage[there] = bow;
            // Kept for leave(): the bow may have changed by then.
            noises[there] = noise;
            times[there] = time;
            there++;
            came |= 1 << bow;
            heard += noise;
            clock += time;
            return noise;
        }

        /** Takes the latest bow off a stage that isn't empty: who. */
        int leave() {
            there--;
            int bow = stage[there];
            came &= ~(1 << bow);
            heard -= noises[there];
            clock -= times[there];
            return bow;
        }

        void empty() {
            there = 0;
            came = 0;
            heard = 0;
            clock = 0;
        }

        int falls() {
            int falls = 0;
            int p = 0;
            for (int i = 0; i < there; i++) {
                if (p > loves[stage[i]]) {
                    falls++;
                }
                p = leftBy(stage[i]);
            }
            return falls;
        }

        int draw() {
            z = z * 1103515245 + 12345;
            return z >>> 8;
        }

        int contracts() {
            int many = 0;
            for (int b = 0; b < bows; b++) {
                many += Integer.bitCount(aheads[b]);
            }
            return many;
        }

        int lovesTogether() {
            int together = 0;
            for (int b = 0; b < bows; b++) {
                together += loves[b];
            }
            return together;
        }

        int heldSpots() {
            int many = 0;
            for (int i = 0; i < SPOTS; i++) {
                if (spots[i] != NOTHING) {
                    many++;
                }
            }
            return many;
        }
    }

    /**
     * The ways behind a stage. It works on rows of its own, so that a kind or a contract can be
     * tried without a change to the scene.
     */
    private static final class Orders {
        private static final int NOBODY = MOST_BOWS;
        private static final int MOST_CONTRACTS = MOST_BOWS * (MOST_BOWS - 1);
        /** Less than any way can bring. */
        private static final int NEVER = -1000000;

        private final int[] kinds = new int[MOST_BOWS];
        private final int[] loves = new int[MOST_BOWS];
        private final int[] aheads = new int[MOST_BOWS];
        /** By who is right ahead (or NOBODY) and who comes: what is to be most. */
        private final int[] scores = new int[(MOST_BOWS + 1) * MOST_BOWS];
        /** By the set of those that have come and who of them is the latest: the most that can follow. */
        private final int[] most = new int[MOST_SETS * MOST_BOWS];
        /** Of those who can come right behind a set: who, and the most that can follow each. */
        private final int[] followers = new int[MOST_BOWS];
        private final int[] mostThen = new int[MOST_BOWS];
        private int many;
        /** By a set: a count or a least number for it. */
        private final int[] bySet = new int[MOST_SETS];
        final int[] first = new int[MOST_BOWS];
        private int bows;
        private int came;
        private int latest;
        int full;
        int freedOne;
        int freedMost;

        void startFrom(Scene scene) {
            bows = scene.bows;
            came = scene.came;
            latest = scene.there == 0 ? NOBODY : scene.stage[scene.there - 1];
            full = (1 << bows) - 1;
            System.arraycopy(scene.kinds, 0, kinds, 0, MOST_BOWS);
            System.arraycopy(scene.loves, 0, loves, 0, MOST_BOWS);
            System.arraycopy(scene.aheads, 0, aheads, 0, MOST_BOWS);
        }

        /** How many have not come. */
        int rest() {
            return Integer.bitCount(full & ~came);
        }

        private boolean canFollow(int bow, int set) {
            return (set & 1 << bow) == 0 && (aheads[bow] & ~set) == 0;
        }

        boolean haveWay() {
            int set = came;
            for (int round = 0; round < bows; round++) {
                for (int b = 0; b < bows; b++) {
                    if (canFollow(b, set)) {
                        set |= 1 << b;
                    }
                }
            }
            return set == full;
        }

        /** Whether the stage and a part of a way can have brought just this set. */
        private boolean canStand(int set) {
            if ((set & came) != came) {
                return false;
            }
            for (int b = 0; b < bows; b++) {
                boolean isNew = (set & ~came & 1 << b) != 0;
                if (isNew && (aheads[b] & ~set) != 0) {
                    return false;
                }
            }
            return true;
        }

        private void score(int what) {
            for (int ahead = 0; ahead <= NOBODY; ahead++) {
                int p = ahead < bows ? Kinds.leftBy(kinds[ahead], loves[ahead]) : 0;
                for (int b = 0; b < bows; b++) {
                    int fall = p > loves[b] ? 1 : 0;
                    // Falls count below 0, so that for both the most is the best.
                    scores[ahead * MOST_BOWS + b] = what == FEWEST_FALLS ? -fall : Kinds.noiseOf(kinds[b], loves[b], p);
                }
            }
        }

        /** The most of a way (there must be one); leaves the most of each part of one in its row. */
        int weigh(int what) {
            score(what);
            for (int set = full; set > came; set--) {
                if (canStand(set)) {
                    findFollowers(set);
                    for (int b = 0; b < bows; b++) {
                        if ((set & ~came & 1 << b) != 0) {
                            most[set * MOST_BOWS + b] = mostBehind(b);
                        }
                    }
                }
            }
            findFollowers(came);
            return mostBehind(latest);
        }

        /** Finds who can come right behind a set; nobody can behind the full one alone. */
        private void findFollowers(int set) {
            many = 0;
            for (int b = 0; b < bows; b++) {
                if (canFollow(b, set)) {
                    followers[many] = b;
                    mostThen[many] = most[(set | 1 << b) * MOST_BOWS + b];
                    many++;
                }
            }
        }

        /** The most that the followers can bring if one is right ahead of them. */
        private int mostBehind(int ahead) {
            int greatest = NEVER;
            for (int i = 0; i < many; i++) {
                greatest = Math.max(greatest, scores[ahead * MOST_BOWS + followers[i]] + mostThen[i]);
            }
            return many == 0 ? 0 : greatest;
        }

        /** Finds the first way with the most (there must be one). */
        void findFirst(int what) {
            weigh(what);
            int set = came;
            int ahead = latest;
            int length = rest();
            for (int i = 0; i < length; i++) {
                findFollowers(set);
                first[i] = firstBehind(ahead);
                ahead = first[i];
                set |= 1 << ahead;
            }
        }

        private int firstBehind(int ahead) {
            int greatest = mostBehind(ahead);
            for (int i = 0; i < many; i++) {
                if (scores[ahead * MOST_BOWS + followers[i]] + mostThen[i] == greatest) {
                    return followers[i];
                }
            }
            return 0;
        }

        int countWays() {
            for (int set = full; set >= came; set--) {
                int orders = set == full ? 1 : 0;
                for (int b = 0; b < bows; b++) {
                    if (canFollow(b, set)) {
                        orders += bySet[set | 1 << b];
                    }
                }
                bySet[set] = orders;
            }
            return bySet[came];
        }

        /** Those of the rest that nobody of the rest needs ahead. */
        int lastOnes() {
            int needed = 0;
            for (int b = 0; b < bows; b++) {
                if ((came & 1 << b) == 0) {
                    needed |= aheads[b];
                }
            }
            return full & ~came & ~needed;
        }

        /** All that must come ahead of a bow, by contracts with those within a set alone. */
        int allAhead(int bow, int within) {
            int set = aheads[bow] & within;
            for (int round = 0; round < bows; round++) {
                for (int b = 0; b < bows; b++) {
                    if ((set & 1 << b) != 0) {
                        set |= aheads[b] & within;
                    }
                }
            }
            return set;
        }

        int earliest(int bow) {
            return Integer.bitCount(allAhead(bow, full & ~came));
        }

        int latest(int bow) {
            int behind = 0;
            for (int b = 0; b < bows; b++) {
                boolean isLeft = (came & 1 << b) == 0;
                if (isLeft && (allAhead(b, full & ~came) & 1 << bow) != 0) {
                    behind++;
                }
            }
            return rest() - 1 - behind;
        }

        /** The fewest contracts that an order of all bows breaks, by the sets that come first. */
        int fewestBroken() {
            bySet[0] = 0;
            for (int set = 1; set <= full; set++) {
                int fewest = MOST_CONTRACTS;
                for (int b = 0; b < bows; b++) {
                    if ((set & 1 << b) != 0) {
                        int broken = Integer.bitCount(aheads[b] & ~set);
                        fewest = Math.min(fewest, bySet[set & ~(1 << b)] + broken);
                    }
                }
                bySet[set] = fewest;
            }
            return bySet[full];
        }

        /** The kind as which a bow makes the most noise of a way greatest (there must be a way). */
        int bestKind(int bow) {
            int greatest = NEVER;
            int best = 0;
            for (int kind = 0; kind < KINDS; kind++) {
                kinds[bow] = kind;
                int noise = weigh(MOST_NOISE);
                if (noise > greatest) {
                    greatest = noise;
                    best = kind;
                }
            }
            return best;
        }

        /** Finds the contract without which the most noise is greatest, and that noise, if any. */
        boolean freeOne() {
            boolean isFound = false;
            for (int a = 0; a < bows; a++) {
                for (int b = 0; b < bows; b++) {
                    int with = aheads[b];
                    aheads[b] = with & ~(1 << a);
                    if (with != aheads[b] && haveWay()) {
                        int noise = weigh(MOST_NOISE);
                        if (!isFound || noise > freedMost) {
                            isFound = true;
                            freedOne = 10 * a + b;
                            freedMost = noise;
                        }
                    }
                    aheads[b] = with;
                }
            }
            return isFound;
        }
    }

    /** The tape, and the reader that cuts it into tokens and takes these one by one. */
    private static final class Tape {
        private static final int MOST_BYTES = 120;
        private static final int MOST_NUMBER = 999;

        private static final int END = 0;
        private static final int WORD = 1;
        private static final int NUMBER = 2;
        private static final int SIGN = 3;
        private static final int BLANK = 4;
        private static final int OTHER = 5;

        private static final int FIRST_RULE = KINDS;
        private static final int LAST_RULE = FIRST_RULE + RULES - 1;
        private static final int CONTRACT = LAST_RULE + 1;
        private static final int LOVE = CONTRACT + 1;
        private static final int SECONDS = LOVE + 1;
        private static final int AHEAD = SECONDS + 1;
        private static final int WORDS = AHEAD + 1;
        private static final int NO_WORD = -1;

        private final int[] bytes = new int[MOST_BYTES];
        int size;
        /**
         * Of each token its sort, its first byte's place, its length and its number: of a word, which one;
         * of a number, itself. Behind the last one stands END.
         */
        private final int[] sorts = new int[MOST_BYTES + 1];
        private final int[] starts = new int[MOST_BYTES + 1];
        private final int[] lengths = new int[MOST_BYTES + 1];
        private final int[] values = new int[MOST_BYTES + 1];
        private int tokens;
        /** The token at hand: which it is, its sort and its number. */
        private int at;
        private int sort;
        private int value;

        boolean hasRoom(int n) {
            return size + n <= MOST_BYTES;
        }

        /** Adds the n lowest bytes; the caller has looked whether there is room. */
        int append(int number, int n) {
            for (int i = n - 1; i >= 0; i--) {
                bytes[size] = number >>> 8 * i & 255;
                size++;
            }
            return size;
        }

        int empty() {
            int had = size;
            size = 0;
            return had;
        }

        /** How many items; or -1 less the fault, and then the draft may hold a part. */
        int readOnto(Scene draft) {
            cut();
            take(0);
            // Each item takes a byte at least, so there can't be more of them.
            for (int items = 1; items <= MOST_BYTES; items++) {
                if (!readItem(draft)) {
                    return -1 - starts[at];
                }
                if (sort == END) {
                    return items;
                }
                if (sort != SIGN) {
                    return -1 - starts[at];
                }
                take(at + 1);
            }
            return -1 - starts[at];
        }

        /** Whether an item stands here; if not, the token at hand is the fault. */
        private boolean readItem(Scene draft) {
            if (sort != WORD) {
                return false;
            }
            if (isIn(value, 0, KINDS - 1)) {
                return readBow(draft);
            }
            if (isIn(value, FIRST_RULE, LAST_RULE)) {
                return readRule(draft);
            }
            return value == CONTRACT && readContract(draft);
        }

        private boolean readBow(Scene draft) {
            if (draft.bows >= MOST_BOWS) {
                return false;
            }
            int bow = draft.addBow(value);
            take(at + 1);
            return readPart(LOVE, 0, MOST_LOVE, draft.loves, bow)
                && readPart(SECONDS, 1, MOST_SECONDS, draft.seconds, bow)
                && readPart(AHEAD, 0, (1 << bow) - 1, draft.aheads, bow);
        }

        /** A word and its number, or neither. */
        private boolean readPart(int word, int least, int greatest, int[] row, int bow) {
            if (sort != WORD || value != word) {
                return true;
            }
            take(at + 1);
            if (!isNumber(least, greatest)) {
                return false;
            }
            row[bow] = value;
            take(at + 1);
            return true;
        }

        private boolean readRule(Scene draft) {
            int rule = value - FIRST_RULE;
            take(at + 1);
            if (!isNumber(0, MOST_OF_RULE[rule])) {
                return false;
            }
            draft.rules[rule] = value;
            take(at + 1);
            return true;
        }

        private boolean readContract(Scene draft) {
            take(at + 1);
            if (!isNumber(0, draft.bows - 1)) {
                return false;
            }
            int a = value;
            take(at + 1);
            if (!isNumber(0, draft.bows - 1) || value == a) {
                return false;
            }
            draft.aheads[value] |= 1 << a;
            take(at + 1);
            return true;
        }

        private boolean isNumber(int least, int greatest) {
            return sort == NUMBER && isIn(value, least, greatest);
        }

        /** Cuts the tape into tokens: a letter behind a letter, a digit behind a digit goes on with its token. */
        private void cut() {
            tokens = 0;
            int before = END;
            for (int i = 0; i < size; i++) {
                int its = sortOf(bytes[i]);
                boolean goesOn = its == before && (its == WORD || its == NUMBER);
                if (goesOn && tokens > 0) {
                    lengths[tokens - 1]++;
                } else if (its != BLANK) {
                    sorts[tokens] = its;
                    starts[tokens] = i;
                    lengths[tokens] = 1;
                    tokens++;
                }
                before = its;
            }
            sorts[tokens] = END;
            starts[tokens] = size;
            for (int t = 0; t <= tokens; t++) {
                values[t] = valueOf(t);
            }
        }

        private int valueOf(int t) {
            if (sorts[t] == WORD) {
                return wordAt(starts[t], lengths[t]);
            }
            return sorts[t] == NUMBER ? numberAt(starts[t], lengths[t]) : 0;
        }

        private static int sortOf(int b) {
            if (b >= 'a' && b <= 'z') {
                return WORD;
            }
            if (b >= '0' && b <= '9') {
                return NUMBER;
            }
            if (b == ';') {
                return SIGN;
            }
            return b == ' ' ? BLANK : OTHER;
        }

        /** Takes token i in hand; nothing comes behind END. */
        private void take(int i) {
            at = Math.min(i, tokens);
            sort = sorts[at];
            value = values[at];
        }

        private int wordAt(int start, int length) {
            for (int word = 0; word < WORDS; word++) {
                if (isWord(spelled(word), start, length)) {
                    return word;
                }
            }
            return NO_WORD;
        }

        private boolean isWord(String word, int start, int length) {
            if (word.length() != length) {
                return false;
            }
            for (int i = 0; i < length; i++) {
                if (word.charAt(i) != bytes[start + i]) {
                    return false;
                }
            }
            return true;
        }

        private int numberAt(int start, int length) {
            int number = 0;
            for (int i = start; i < start + length; i++) {
                // Held just above the most, so that a long row of digits can't wrap around.
                number = Math.min(number * 10 + bytes[i] - '0', MOST_NUMBER + 1);
            }
            return number;
        }

        private static String spelled(int word) {
            switch (word) {
                case 0:
                    return "bow";
                case Kinds.ROWED:
                    return "rowed";
                case Kinds.RISING:
                    return "rising";
                case Kinds.FALLING:
                    return "falling";
                case Kinds.LAST:
                    return "last";
                case Kinds.SHIELDED:
                    return "shielded";
                case Kinds.CHILD:
                    return "child";
                case FIRST_RULE + TIRES:
                    return "tires";
                case FIRST_RULE + SILENT:
                    return "silent";
                case FIRST_RULE + GAIN:
                    return "gain";
                case FIRST_RULE + LOSS:
                    return "loss";
                case FIRST_RULE + TRAIN:
                    return "train";
                case CONTRACT:
                    return "contract";
                case LOVE:
                    return "love";
                case SECONDS:
                    return "seconds";
                default:
                    return "ahead";
            }
        }
    }

    /** Sheets 0 to 3: rows of numbers in one row, each with room for the most. */
    private static final class Sheets {
        private static final int MOST_SHEETS = 4;
        static final int MOST_NUMBERS = 40;

        /** 0: the sheet is missing. */
        final int[] bits = new int[MOST_SHEETS];
        final int[] sizes = new int[MOST_SHEETS];
        private final int[] numbers = new int[MOST_SHEETS * MOST_NUMBERS];

        boolean isSheet(int s) {
            return isIn(s, 0, MOST_SHEETS - 1);
        }

        /** The finding that a sheet calls for, or FINE. */
        int wrongWith(int s) {
            if (!isSheet(s)) {
                return BEYOND;
            }
            return bits[s] == 0 ? MISSING : FINE;
        }

        int lay(int s, int width, int n) {
            bits[s] = width;
            sizes[s] = width == 0 ? 0 : n;
            for (int i = 0; i < MOST_NUMBERS; i++) {
                numbers[s * MOST_NUMBERS + i] = 0;
            }
            return sizes[s];
        }

        int numberAt(int s, int i) {
            return numbers[s * MOST_NUMBERS + i];
        }

        /** Puts the lowest bits, with the sign that they tell. */
        void set(int s, int i, int v) {
            int unused = 32 - bits[s];
            numbers[s * MOST_NUMBERS + i] = v << unused >> unused;
        }

        /** Whether a sheet has n numbers from one on; compared so that nothing wraps around. */
        boolean hasPart(int s, int from, int n) {
            return n >= 0 && isIn(from, 0, sizes[s]) && n <= sizes[s] - from;
        }

        int move(int s, int from, int t, int to, int n) {
            System.arraycopy(numbers, s * MOST_NUMBERS + from, numbers, t * MOST_NUMBERS + to, n);
            return n;
        }
    }
}
