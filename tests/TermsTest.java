/** The Terms of the document, sentence by sentence: the edges that each one names. */
public final class TermsTest {
    private static final int[] FAR = {Integer.MIN_VALUE, -1000001, 1000001, Integer.MAX_VALUE};

    public static void main(String[] args) throws Exception {
        Doc.open(args);
        findings();
        anyZ();
        orderOfFindings();
        cutQuotients();
        setsAndTies();
        bows();
        rules();
        noise();
        leaves();
        lasts();
        falls();
        orders();
        stage();
        ways();
        curtains();
        worth();
        draws();
        tape();
        tokens();
        items();
        faults();
        spots();
        sheets();
        Doc.allSaid(Doc.TERMS, Doc.TERMS);
        Check.end();
    }

    private static void says(String sentence) {
        Doc.says(Doc.TERMS, sentence);
    }

    private static void due(String call, long got, long want) {
        Doc.due(call, got, want);
    }

    private static WhoBowsLast nine() {
        return Check.made("bow;bow;bow;bow;bow;bow;bow;bow;bow");
    }

    /** 0 and 1 need each other. */
    private static WhoBowsLast ring() {
        WhoBowsLast x = Check.made("bow;bow ahead 1");
        x.contract(1, 0, 1);
        return x;
    }

    private static void findings() {
        says("FINDINGS are answers below -1000000: LOW is -1000001; LOW BEYOND, LOW - 1 FULL, LOW - 2 KIND, "
            + "LOW - 3 NONE, LOW - 4 STATE, LOW - 5 MISSING, LOW - 6 SIZE (in longs, too)");
        WhoBowsLast x = Check.made("rowed");
        x.come(0);
        x.hold(0, 0);
        due("BEYOND", x.bow(7), -1000001);
        due("FULL", nine().bow(0), -1000002);
        due("KIND", x.as(0, 2), -1000003);
        due("NONE", x.undo(), -1000004);
        due("STATE", x.come(0), -1000005);
        due("MISSING", x.load(0), -1000006);
        due("SIZE", x.sheet(0, 8, -1), -1000007);
        due("in longs", x.curtain(9, 0), -1000001L);
        due("all but the full one counted", x.status(-1), 7);
    }

    private static void anyZ() {
        says("What seed() and count(6) tell, z, may be any int: that is no finding");
        WhoBowsLast x = new WhoBowsLast();
        int was = 1;
        for (int z = -1000008; z <= -999999; z++) {
            due("seed(" + z + ")", x.seed(z), was);
            due("count(6)", x.count(6), z);
            was = z;
        }
        for (int z : FAR) {
            due("seed(" + z + ")", x.seed(z), was);
            due("count(6)", x.count(6), z);
            was = z;
        }
        due("status(-1)", x.status(-1), 0);
    }

    private static void orderOfFindings() {
        says("Each act tells its findings in the order in which they are asked (that of its words); "
            + "one that answers a finding changes nothing but status()");
        due("bow(7) of nine: BEYOND ahead of FULL", nine().bow(7), Check.BEYOND);
        due("best(2) in a ring: BEYOND ahead of NONE", ring().best(2), Check.BEYOND);
        due("ith(2, 0) in a ring: BEYOND ahead of NONE", ring().ith(2, 0), Check.BEYOND);
        due("ith(0, -1) in a ring: BEYOND ahead of NONE", ring().ith(0, -1), Check.BEYOND);
        due("kindFor(2) in a ring: BEYOND ahead of NONE", ring().kindFor(2), Check.BEYOND);
        due("between(1, 1) of two: BEYOND ahead of NONE", ring().between(1, 1), Check.BEYOND);
        due("between(0, 2) of two: BEYOND ahead of NONE", ring().between(0, 2), Check.BEYOND);
        due("stood(-1) of none: BEYOND ahead of NONE", ring().stood(-1), Check.BEYOND);
        due("love(0, 1000, 5000): BEYOND ahead of NONE", ring().love(0, 1000, 5000), Check.BEYOND);
        WhoBowsLast x = Check.made("bow;bow;bow ahead 2");
        x.come(0);
        x.contract(2, 1, 1);
        due("place(0, 2): BEYOND ahead of STATE", x.place(0, 2), Check.BEYOND);
        due("place(0, 0) in a ring: STATE ahead of NONE", x.place(0, 0), Check.STATE);
        due("place(1, 2) in a ring: BEYOND ahead of NONE", x.place(1, 2), Check.BEYOND);
        for (int i = 0; i < 30; i++) {
            x.feed(0, 4);
        }
        due("feed(0, 5) of a full tape: BEYOND ahead of FULL", x.feed(0, 5), Check.BEYOND);
        due("feed(0, 0) of a full tape: BEYOND ahead of FULL", x.feed(0, 0), Check.BEYOND);
        due("as(0, 7) of nothing: BEYOND ahead of MISSING", x.as(0, 7), Check.BEYOND);
        orderOfFindingsOfSheets();
    }

    private static void orderOfFindingsOfSheets() {
        WhoBowsLast x = Check.made("bow");
        x.sheet(0, 8, 3);
        x.sheet(1, 16, 3);
        due("sheet(4, 8, -1): BEYOND ahead of SIZE", x.sheet(4, 8, -1), Check.BEYOND);
        due("sheet(0, 9, -1): BEYOND ahead of SIZE", x.sheet(0, 9, -1), Check.BEYOND);
        due("sheet(4, 0, -1): BEYOND ahead of SIZE", x.sheet(4, 0, -1), Check.BEYOND);
        due("write(4, -1, 0): no such sheet is asked first", x.write(4, -1, 0), Check.BEYOND);
        due("write(2, -1, 0): MISSING ahead of the number", x.write(2, -1, 0), Check.MISSING);
        due("copy(2, 0, 4, 0, 1): BEYOND ahead of MISSING", x.copy(2, 0, 4, 0, 1), Check.BEYOND);
        due("copy(4, 0, 2, 0, 1): BEYOND ahead of MISSING", x.copy(4, 0, 2, 0, 1), Check.BEYOND);
        due("copy(2, 0, 0, 0, 9): MISSING ahead of the numbers", x.copy(2, 0, 0, 0, 9), Check.MISSING);
        due("copy(1, 0, 2, 0, 1): MISSING ahead of KIND", x.copy(1, 0, 2, 0, 1), Check.MISSING);
        due("copy(0, 0, 1, 0, -1): KIND ahead of the numbers", x.copy(0, 0, 1, 0, -1), Check.KIND);
    }

    private static void cutQuotients() {
        says("Quotients are cut");
        WhoBowsLast x = Check.made("rowed love 7 seconds 7;rising love 0;child seconds 7;falling love 43");
        due("a quarter of LOVE 7", x.noise(0, 0), 1);
        due("a quarter of 7 SECONDS", x.of(0, 5), 1);
        due("half of 7 SECONDS", x.of(2, 5), 3);
        due("a tenth of 9", x.noise(1, 9), 0);
        due("a tenth of 19", x.noise(1, 19), 1);
        due("a tenth of 9, falling", x.noise(3, 9), 43);
        due("a tenth of 39, falling", x.noise(3, 39), 46);
        x.change(3, 0, 4);
        due("a tenth of 9, twice", x.noise(3, 9), 86);
        due("a tenth of 39, twice", x.noise(3, 39), 92);
    }

    private static void setsAndTies() {
        says("Sets are told as bits; of several that would do the least number counts, where nothing else is told");
        WhoBowsLast x = Check.made("bow;bow;bow;bow ahead 5");
        due("of(3, 3)", x.of(3, 3), 5);
        due("now(4)", x.now(4), 7);
        due("between(1, 2) of alike", x.between(1, 2), 0);
        due("between(0, 1) of alike", x.between(0, 1), 2);
        due("freed() of alike", x.freed(), 3);
        due("love(0, 0, 10)", x.love(0, 0, 10), 10);
        x.come(2);
        x.come(0);
        due("now(3)", x.now(3), 5);
        due("kindFor(2): as all alike", x.kindFor(2), 0);
        due("kindFor(0) of love 25: 50 as 4, 50 as 6", Check.made("child love 25").kindFor(0), 4);
    }

    private static void bows() {
        says("BOWS 0, 1, .. (at most 9), of KINDS: 0 BOW; 1 ROWED, 2 RISING, 5 SHIELDED under BOW; 3 FALLING under RISING; "
            + "4 LAST under FALLING; 6 CHILD under SHIELDED; each with LOVE (0 to 99; 10 at first), SECONDS (1 to 60; "
            + "5 at first), AHEAD (a set of other BOWS: CONTRACTS, each of one that must come ahead of it; none at first)");
        WhoBowsLast x = new WhoBowsLast();
        int[] above = {1, 3, 5, 13, 29, 33, 97, 1, 3};
        for (int b = 0; b < 9; b++) {
            due("bow " + b, x.bow(b % 7), b);
            due("its LOVE at first", x.of(b, 1), 10);
            due("its SECONDS at first", x.of(b, 2), 5);
            due("its AHEAD at first", x.of(b, 3), 0);
            x.hold(b, b);
            for (int kind = 0; kind < 7; kind++) {
                due("as(" + b + ", " + kind + ")", x.as(b, kind), (above[b] >> kind & 1) == 1 ? b : Check.KIND);
            }
        }
        due("a 10th", x.bow(0), Check.FULL);
        due("nine", x.count(1), 9);
        int[][] fine = {{1, 0}, {1, 99}, {2, 1}, {2, 60}, {3, 1}, {3, 255}, {3, 0}};
        int[][] wrong = {{1, -1}, {1, 100}, {2, 0}, {2, 61}, {3, -1}, {3, 256}, {3, 257}, {3, 511}, {3, 512}, {0, -1}, {0, 7}};
        for (int[] v : fine) {
            x.change(8, v[0], v[1]);
            due("of(8, " + v[0] + ")", x.of(8, v[0]), v[1]);
        }
        for (int[] v : wrong) {
            due("change(8, " + v[0] + ", " + v[1] + ")", x.change(8, v[0], v[1]), Check.BEYOND);
        }
        x.change(0, 3, 510);
        due("AHEAD of the first: all others", x.of(0, 3), 510);
    }

    private static void rules() {
        says("RULES: 0 TIRES (0 to 9; 1 at first), 1 SILENT (0 to 10; 1 at first), 2 GAIN (0 to 99; 20 at first), "
            + "3 LOSS (0 to 99; 30 at first), 4 TRAIN (0 to 999 seconds; 60 at first)");
        int[] most = {9, 10, 99, 99, 999};
        int[] first = {1, 1, 20, 30, 60};
        WhoBowsLast x = new WhoBowsLast();
        for (int what = 0; what < 5; what++) {
            due("rule " + what + " at first", x.rule(what, most[what]), first[what]);
            due("rule " + what + " above its most", x.rule(what, most[what] + 1), Check.BEYOND);
            due("rule " + what + " stays", x.rule(what, 0), most[what]);
            due("rule " + what + " below 0", x.rule(what, -1), Check.BEYOND);
            due("rule " + what + " stays", x.rule(what, 1), 0);
        }
    }

    /** What a bow of this kind and love makes by each p. */
    private static void noiseOf(int kind, int love, int[] ps, long... want) {
        WhoBowsLast x = Check.made("bow love " + love);
        x.change(0, 0, kind);
        for (int i = 0; i < ps.length; i++) {
            due("noise of love " + love + " by " + ps[i], x.noise(0, ps[i]), want[i]);
        }
    }

    private static void noise() {
        int[] ps = {0, 9, 10, 42, 43, 44, 94, 95, 96, 999};
        int[] ends = {0, 999};
        says("NOISE of a BOW, by p, what the one who came right ahead of it LEAVES (0 for the first): BOW: LOVE");
        noiseOf(0, 0, ends, 0, 0);
        noiseOf(0, 99, ends, 99, 99);
        WhoBowsLast x = Check.made("rising love 30;bow love 99");
        due("the first one's p is 0", x.come(0), 30);
        x.clear();
        x.come(1);
        due("the next one's is what is left", x.come(0), 39);
        says("ROWED: a quarter of LOVE");
        noiseOf(1, 0, ends, 0, 0);
        noiseOf(1, 3, ends, 0, 0);
        noiseOf(1, 4, ends, 1, 1);
        noiseOf(1, 99, ends, 24, 24);
        says("RISING: as a BOW, and a tenth of p");
        noiseOf(2, 0, ps, 0, 0, 1, 4, 4, 4, 9, 9, 9, 99);
        noiseOf(2, 99, ends, 99, 198);
        says("FALLING: as RISING, less what p is more than its own LOVE (0 at least)");
        noiseOf(3, 43, ps, 43, 43, 44, 47, 47, 46, 1, 0, 0, 0);
        noiseOf(3, 0, new int[] {0, 1, 999}, 0, 0, 0);
        noiseOf(3, 99, new int[] {0, 99, 100, 999}, 99, 108, 108, 0);
        says("LAST: twice as FALLING");
        noiseOf(4, 43, ps, 86, 86, 88, 94, 94, 92, 2, 0, 0, 0);
        noiseOf(4, 99, new int[] {0, 99, 100, 999}, 198, 216, 216, 0);
        says("SHIELDED: as a BOW, and 5");
        noiseOf(5, 0, ends, 5, 5);
        noiseOf(5, 99, ends, 104, 104);
        says("CHILD: as SHIELDED, and 20");
        noiseOf(6, 0, ends, 25, 25);
        noiseOf(6, 99, ends, 124, 124);
    }

    /** What a bow leaves, if its love is 0 and if it is 99. */
    private static void leavesOf(int kind, long none, long most) {
        WhoBowsLast x = Check.made("bow love 0;bow love 99");
        x.change(0, 0, kind);
        x.change(1, 0, kind);
        due("kind " + kind + " with love 0", x.of(0, 4), none);
        due("kind " + kind + " with love 99", x.of(1, 4), most);
    }

    private static void leaves() {
        says("LEAVES: BOW: LOVE");
        leavesOf(0, 0, 99);
        says("ROWED, SHIELDED: 0");
        leavesOf(1, 0, 0);
        leavesOf(5, 0, 0);
        says("RISING, FALLING: as the KIND above");
        leavesOf(2, 0, 99);
        leavesOf(3, 0, 99);
        says("LAST: twice as FALLING");
        leavesOf(4, 0, 198);
        says("CHILD: 50 more than SHIELDED");
        leavesOf(6, 50, 50);
    }

    private static final int[] SECONDS = {1, 2, 3, 4, 7, 8, 60};

    private static void lastsOf(int kind, long... want) {
        WhoBowsLast x = Check.made("bow");
        x.change(0, 0, kind);
        for (int i = 0; i < SECONDS.length; i++) {
            x.change(0, 2, SECONDS[i]);
            due("kind " + kind + " of " + SECONDS[i] + " seconds", x.of(0, 5), want[i]);
        }
    }

    private static void lasts() {
        says("LASTS (seconds): BOW: SECONDS");
        lastsOf(0, 1, 2, 3, 4, 7, 8, 60);
        says("ROWED: a quarter of that, 1 at least");
        lastsOf(1, 1, 1, 1, 1, 1, 2, 15);
        says("RISING, SHIELDED: as a BOW");
        lastsOf(2, 1, 2, 3, 4, 7, 8, 60);
        lastsOf(5, 1, 2, 3, 4, 7, 8, 60);
        says("FALLING: as RISING, and 1");
        lastsOf(3, 2, 3, 4, 5, 8, 9, 61);
        says("LAST: as FALLING, and 5");
        lastsOf(4, 7, 8, 9, 10, 13, 14, 66);
        says("CHILD: half of SHIELDED, 1 at least");
        lastsOf(6, 1, 1, 1, 2, 3, 4, 30);
    }

    private static void falls() {
        says("A FALL: a BOW whose p is more than its LOVE");
        WhoBowsLast x = Check.made("bow love 40;bow love 40 ahead 1");
        due("as much is no fall", x.best(1), 0);
        x.change(1, 1, 39);
        due("one more is a fall", x.best(1), 1);
        x.come(0);
        due("one more behind the stage", x.best(1), 1);
        x.come(1);
        due("one more on the stage", x.now(5), 1);
        x.change(1, 1, 40);
        due("as much on the stage", x.now(5), 0);
        x = Check.made("bow love 0;bow love 0 ahead 1");
        due("0 behind 0", x.best(1), 0);
        x.change(0, 0, 6);
        due("0 behind a child", x.best(1), 1);
        x.change(1, 1, 50);
        due("50 behind a child", x.best(1), 0);
        x.change(1, 1, 49);
        due("49 behind a child", x.best(1), 1);
    }

    private static void orders() {
        says("An ORDER: a row of BOWS, each once");
        WhoBowsLast x = Check.made("bow love 40;rising love 30 ahead 1;falling love 20 ahead 2");
        x.sheet(0, 8, 4);
        put(x, 0, 0, 1, 0, 2);
        due("one twice", x.judge(0), 3);
        due("orders of three free ones", Check.made("bow;bow;bow").ways(), 6);
        says("It KEEPS all CONTRACTS, if of each BOW all AHEAD of it come ahead");
        x.sheet(0, 8, 3);
        put(x, 0, 0, 1, 2);
        due("kept", x.judge(0), 0);
        put(x, 0, 0, 2, 1);
        due("not kept", x.judge(0), 2);
        x.change(2, 3, 3);
        put(x, 0, 1, 0, 2);
        due("not kept by the first", x.judge(0), 1);
        x.change(1, 3, 0);
        x.sheet(0, 8, 2);
        put(x, 0, 0, 2);
        due("all AHEAD, not one", x.judge(0), 2);
        says("Its NOISE: of all, together; its FALLS: how many");
        x.change(1, 3, 1);
        due("40 + 34 + 13", x.best(0), 87);
        due("1 behind 40, 2 behind 30", x.best(1), 2);
        due("of no bows", new WhoBowsLast().best(0), 0);
        due("of no bows", new WhoBowsLast().best(1), 0);
    }

    private static void put(WhoBowsLast x, int s, int... numbers) {
        for (int i = 0; i < numbers.length; i++) {
            x.write(s, i, numbers[i]);
        }
    }

    private static void stage() {
        says("THE STAGE: BOWS that have come, one behind the other (none at first); HEARD (their NOISE together, as it was "
            + "when they came), CLOCK (what they LASTED, likewise)");
        WhoBowsLast x = Check.made("bow love 40 seconds 7;rising love 30 seconds 9 ahead 1;bow;bow ahead 4;contract 3 2");
        for (int what = 0; what < 4; what++) {
            due("now(" + what + ") at first", x.now(what), 0);
        }
        says("To COME: a BOW that hasn't come, all of whose AHEAD have come (else it CAN'T): HEARD is more by its NOISE, "
            + "CLOCK by what it LASTS");
        due("come(1) ahead of 0", x.come(1), Check.STATE);
        due("come(2) in a ring", x.come(2), Check.STATE);
        due("come(0)", x.come(0), 40);
        due("come(0) again", x.come(0), Check.STATE);
        due("HEARD", x.now(1), 40);
        due("CLOCK", x.now(2), 7);
        due("come(1)", x.come(1), 34);
        due("HEARD", x.now(1), 74);
        due("CLOCK", x.now(2), 16);
        says("THE STAGE: BOWS that have come, one behind the other (none at first); HEARD (their NOISE together, as it was "
            + "when they came), CLOCK (what they LASTED, likewise)");
        for (int b = 0; b < 2; b++) {
            x.change(b, 0, 1);
            x.change(b, 1, 99);
            x.change(b, 2, 60);
        }
        due("HEARD as it was", x.now(1), 74);
        due("CLOCK as it was", x.now(2), 16);
        due("the first", x.stood(0), 0);
        due("the next", x.stood(1), 1);
    }

    private static void ways() {
        says("A WAY: an ORDER of all that haven't come, behind THE STAGE, that KEEPS CONTRACTS");
        WhoBowsLast x = Check.made("bow love 60;falling love 30;bow love 20 ahead 2");
        due("ways() of three", x.ways(), 3);
        x.come(0);
        due("ways() of two", x.ways(), 1);
        due("best(0) behind 60: 30 + 6 - 30 + 20", x.best(0), 26);
        x.come(1);
        x.come(2);
        due("ways() of none left", x.ways(), 1);
        due("best(0) of none left", x.best(0), 0);
        due("ways() in a ring", ring().ways(), 0);
        says("Of several ways that would do the first (by BOWS, the least first)");
        x = Check.made("bow;bow;bow");
        for (int i = 0; i < 3; i++) {
            due("ith(0, " + i + ") of alike", x.ith(0, i), i);
            due("ith(1, " + i + ") of alike", x.ith(1, i), i);
        }
        x.contract(1, 0, 1);
        due("the first that may", x.ith(0, 0), 1);
        due("the least next", x.ith(0, 1), 0);
    }

    private static WhoBowsLast ruled(int tires, int silent, int gain, int loss) {
        WhoBowsLast x = new WhoBowsLast();
        x.rule(0, tires);
        x.rule(1, silent);
        x.rule(2, gain);
        x.rule(3, loss);
        return x;
    }

    private static void curtains() {
        says("CURTAINS are numbered from 0: at number c it is silent by odds of SILENT times c tenths (10 at most): then LOSS "
            + "is lost, and that is the end; else GAIN less c times TIRES is won (may be below 0), and one can stop or go on; "
            + "at most 8 of them");
        WhoBowsLast x = ruled(0, 10, 20, 99);
        due("number 0 is never silent", x.evening(8), 20 - 99);
        due("number 0 never loses", x.curtain(0, 0), 20);
        due("number 1 is silent by 10 tenths", x.curtain(1, 0), 0);
        // By 12 tenths, number 3 would win a gain below 0 twice turned.
        due("odds of 12 tenths are 10", ruled(9, 4, 0, 0).curtain(3, 0), 0);
        x = ruled(9, 0, 0, 0);
        due("won below 0", x.evening(2), -9);
        due("won below 0 by eight", x.evening(8), -252);
        due("eight of them, never silent", ruled(0, 0, 99, 0).curtain(0, 0), 792);
        due("a 9th", x.evening(9), Check.BEYOND);
    }

    private static void worth() {
        says("WORTH from number c on: what is won, less what is lost, on the average, if it stops ahead of c (that is 0), or "
            + "goes on at c and then does likewise at the next one, whichever is more (0 from number 8 on)");
        WhoBowsLast x = ruled(1, 1, 20, 30);
        due("number 3 alone: 0.7 of 17 less 0.3 of 30", x.curtain(3, 0), 29);
        due("in tenths", x.curtain(3, 1), 10);
        due("number 4 stops, it would lose", x.curtain(4, 0), 0);
        due("number 8", x.curtain(8, 0), 0);
        due("number 8", x.curtain(8, 1), 1);
        // 0.3 of 70 is what 0.7 of 30 loses: as much as to stop.
        due("number 7 by nothing", ruled(0, 1, 70, 30).curtain(7, 0), 0);
        due("number 7 by 0.3", ruled(0, 1, 71, 30).curtain(7, 0), 3);
        due("number 7 by 0.3", ruled(0, 1, 71, 30).curtain(7, 1), 10);
    }

    private static void draws() {
        says("DRAWS: z is told (1 at first); each makes it z * 1103515245 + 12345 (an int), and gives z >>> 8");
        WhoBowsLast x = Check.made("bow;bow;bow");
        due("z at first", x.count(6), 1);
        x.evening(1);
        due("z behind one", x.count(6), 1103527590);
        int[] before = {0, 2, 2147483647, Integer.MIN_VALUE, 10};
        int[] after = {12345, -2087924461, 1043980748, -2147471303, -1849737093};
        for (int i = 0; i < before.length; i++) {
            x.seed(before[i]);
            x.evening(1);
            due("z behind " + before[i] + " wraps around", x.count(6), after[i]);
        }
        // Of z below 0 the draw is above 0: 8621261 by 3, 5841227 by 2, 11009953 by 1.
        x.seed(2);
        x.lot();
        due("the first by z below 0", x.stood(0), 2);
        due("the next", x.stood(1), 1);
        due("z behind three", x.count(6), -1476419255);
    }

    private static void tape() {
        says("A TEXT is read from THE TAPE (bytes, at most 120)");
        WhoBowsLast x = new WhoBowsLast();
        for (int i = 1; i <= 30; i++) {
            due("feed(blanks, 4)", x.feed(0x20202020, 4), 4 * i);
        }
        due("a 121st byte", x.feed(0x20, 1), Check.FULL);
        due("a text of 120 blanks", x.text(), -121);
        due("a text of 120 bytes", Check.read(x, "bow;" + "bow;".repeat(7) + "gain 7;" + " ".repeat(75) + "loss 1"), 10);
        due("its last item", x.rule(3, 0), 1);
    }

    private static void fault(String text, int place) {
        WhoBowsLast x = new WhoBowsLast();
        due("[" + text + "]", Check.read(x, text), -1 - place);
        due("bows of [" + text + "]", x.count(1), 0);
    }

    private static void fine(String text, int items) {
        due("[" + text + "]", Check.read(new WhoBowsLast(), text), items);
    }

    private static void tokens() {
        says("TOKENS, each as long as can be: WORDS (letters a to z), NUMBERS (digits, 999 at most), SIGN ; ; blanks may stand between");
        fault("bowbow", 0);
        fault("bow;bowa", 4);
        fault("bow love1 2", 10);
        fine("bow love12seconds34ahead0;bow", 2);
        fine("bow;train 999", 2);
        fine("bow;train 000000999", 2);
        fault("bow;train 1000", 10);
        fault("bow;train 10000000000000", 10);
        fault("bow;train 4294967297", 10);
        fault("bow;train 18446744073709551617", 10);
        fine("bow  love  3  ;  bow", 2);
        fine("bow;bow", 2);
        fault("bow l ove 3", 4);
        fault("bow\n;bow", 3);
        fault("bo`", 0);
        fault("bow`", 3);
        fault("bow{", 3);
        fault("bow@", 3);
        fault("Bow", 0);
        fault("bow love 1/", 10);
        fault("bow love 1:", 10);
        fault("bow:bow", 3);
        fault("bow<bow", 3);
        says("TEXT: ITEM { ; ITEM }");
        fault("", 0);
        fault(";", 0);
        fault(";bow", 0);
        fault("bow;", 4);
        fault("bow;;bow", 4);
        fault("bow bow", 4);
        fine("bow", 1);
        fine("bow;bow;bow", 3);
    }

    private static void items() {
        says("ITEM: bow, rowed, rising, falling, last, shielded or child, perhaps love and a NUMBER (0 to 99), perhaps seconds "
            + "and a NUMBER (1 to 60), perhaps ahead and a NUMBER (a set of BOWS there by then, itself not): a new BOW; "
            + "contract, two NUMBERS (BOWS there by then, unlike): the first one must come ahead of the second one; tires, a "
            + "NUMBER (0 to 9); silent, a NUMBER (0 to 10); gain or loss, a NUMBER (0 to 99); train, a NUMBER");
        String[] kinds = {"bow", "rowed", "rising", "falling", "last", "shielded", "child"};
        for (int kind = 0; kind < 7; kind++) {
            due(kinds[kind], Check.made(kinds[kind] + " love 3").of(0, 0), kind);
        }
        fine("bow love 0", 1);
        fine("bow love 99", 1);
        fault("bow love 100", 9);
        fine("bow seconds 1", 1);
        fine("bow seconds 60", 1);
        fault("bow seconds 0", 12);
        fault("bow seconds 61", 12);
        fine("bow ahead 0", 1);
        fault("bow ahead 1", 10);
        fine("bow;bow ahead 1", 2);
        fault("bow;bow ahead 2", 14);
        fault("bow;bow ahead 3", 14);
        fault("bow;bow ahead 4;bow", 14);
        fine("bow;bow;contract 0 1", 3);
        fine("bow;bow;contract 1 0", 3);
        fault("bow;bow;contract 1 1", 19);
        fault("bow;bow;contract 2 0", 17);
        fault("bow;bow;contract 0 2;bow", 19);
        WhoBowsLast x = Check.made("bow;bow;contract 1 0");
        due("the first one ahead of the second one", x.of(0, 3), 2);
        due("not the second one ahead of the first one", x.of(1, 3), 0);
        String[] names = {"tires", "silent", "gain", "loss", "train"};
        int[] most = {9, 10, 99, 99, 999};
        for (int r = 0; r < 5; r++) {
            fine(names[r] + " 0", 1);
            fine(names[r] + " " + most[r], 1);
            fault(names[r] + " " + (most[r] + 1), names[r].length() + 1);
        }
    }

    private static void faults() {
        says("FAULT: the place (from 0) of the first byte of the first TOKEN that can't stand there (a NUMBER that isn't as "
            + "told, another WORD, a byte that begins no TOKEN, the WORD of a 10th BOW: its own), or how many bytes there are "
            + "if it ends too early");
        fault("bow love 777", 9);
        fault("cow", 0);
        fault("bow hate 7", 4);
        fault("bow, bow", 3);
        fault("bow" + (char) 0, 3);
        fault("bow" + (char) 255, 3);
        fault("bow;bow;bow;bow;bow;bow;bow;bow;bow;  child", 38);
        fault("bow;bow;bow;bow;bow;bow;bow;bow;bow;rowed love 777", 36);
        due("a 9th bow is none", Check.read(new WhoBowsLast(), "bow;bow;bow;bow;bow;bow;bow;bow;child"), 9);
        WhoBowsLast x = nine();
        due("the 10th of an object", Check.read(x, "last"), -1);
        fault("bow love", 8);
        fault("bow love  ", 10);
        fault("bow;bow;contract 0", 18);
        fault("gain", 4);
        fault("gain 5; ", 8);
        // The first fault counts, whatever stands behind it.
        fault("bow love 100 seconds 100 x", 9);
    }

    private static void spots() {
        says("SPOTS 0 to 9 hold a BOW or nothing (at first)");
        WhoBowsLast x = Check.made("bow");
        for (int spot = 0; spot <= 9; spot++) {
            due("as(" + spot + ", 0) at first", x.as(spot, 0), Check.MISSING);
            due("hold(" + spot + ", 0)", x.hold(spot, 0), 1);
            due("as(" + spot + ", 0)", x.as(spot, 0), 0);
            due("count(7)", x.count(7), spot + 1);
        }
        due("hold(10, 0)", x.hold(10, 0), Check.BEYOND);
        due("hold(-1, 0)", x.hold(-1, 0), Check.BEYOND);
        due("hold(9, -1)", x.hold(9, -1), 1);
        due("as(9, 0)", x.as(9, 0), Check.MISSING);
        due("count(7)", x.count(7), 9);
    }

    private static void sheets() {
        says("SHEETS 0 to 3: rows of at most 40 numbers of 8, 16 or 32 bits (told with their sign: of 8 bits 255 is -1), or "
            + "MISSING (at first)");
        WhoBowsLast x = Check.made("bow");
        for (int s = 0; s <= 3; s++) {
            due("load(" + s + ") at first", x.load(s), Check.MISSING);
            due("sheet(" + s + ", 8, 40)", x.sheet(s, 8, 40), 40);
            due("sheet(" + s + ", 8, 41)", x.sheet(s, 8, 41), Check.BEYOND);
            due("load(" + s + ")", x.load(s), 1);
        }
        due("sheet(4, 8, 1)", x.sheet(4, 8, 1), Check.BEYOND);
        due("sheet(-1, 8, 1)", x.sheet(-1, 8, 1), Check.BEYOND);
        // A number below 0 or above 99 is no LOVE.
        int[][] signs = {
            {8, 255, 0}, {8, 128, 0}, {8, 127, 0}, {8, 256 + 99, 1}, {8, -157, 1}, {16, 255, 0}, {16, 65535, 0},
            {16, 65536 + 99, 1}, {16, -65536, 1}, {32, 65536 + 99, 0}, {32, -1, 0}, {32, 99, 1}
        };
        for (int[] sign : signs) {
            x.sheet(0, sign[0], 1);
            x.write(0, 0, sign[1]);
            due("of " + sign[0] + " bits " + sign[1], x.load(0), sign[2]);
        }
    }
}
