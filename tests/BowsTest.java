/** Promises 1 to 7: a new object; bows, contracts, rules. */
public final class BowsTest {
    private static final int[] FAR = {Integer.MIN_VALUE, -1000000, 1000000, Integer.MAX_VALUE};

    public static void main(String[] args) {
        promise1();
        promise2();
        promise3();
        promise3ByKinds();
        promise4();
        promise5();
        promise6();
        promise7();
        Check.end();
    }

    private static void promise1() {
        WhoBowsLast x = new WhoBowsLast();
        Check.due("new: status(-1)", x.status(-1), 0);
        long[] counts = {0, 0, 0, 0, 0, 0, 1, 0};
        for (int what = 0; what < 8; what++) {
            Check.due("new: count(" + what + ")", x.count(what), counts[what]);
        }
        for (int what = 0; what < 6; what++) {
            Check.due("new: now(" + what + ")", x.now(what), 0);
        }
        int[] rules = {1, 1, 20, 30, 60};
        for (int what = 0; what < 5; what++) {
            Check.due("new: rule(" + what + ", 0)", x.rule(what, 0), rules[what]);
        }
        Check.due("new: wipe()", x.wipe(), 0);
        Check.due("new: tear()", x.tear(), 0);
        Check.due("new: undo()", x.undo(), Check.NONE);
        for (int s = 0; s < 4; s++) {
            Check.due("new: judge(" + s + ")", x.judge(s), Check.MISSING);
        }
        for (int spot = 0; spot < 10; spot++) {
            Check.due("new: as(" + spot + ", 0)", x.as(spot, 0), Check.MISSING);
        }
        WhoBowsLast y = new WhoBowsLast();
        y.bow(0);
        Check.due("new: another object's bows", x.count(1), 0);
    }

    private static void promise2() {
        WhoBowsLast x = new WhoBowsLast();
        Check.due("bow(-1)", x.bow(-1), Check.BEYOND);
        Check.due("bow(7)", x.bow(7), Check.BEYOND);
        for (int v : FAR) {
            Check.due("bow(" + v + ")", x.bow(v), Check.BEYOND);
        }
        Check.due("count(1)", x.count(1), 0);
        for (int b = 0; b < 9; b++) {
            Check.due("bow(" + b % 7 + ")", x.bow(b % 7), b);
            Check.due("its kind", x.of(b, 0), b % 7);
            Check.due("its love", x.of(b, 1), 10);
            Check.due("its seconds", x.of(b, 2), 5);
            Check.due("its ahead", x.of(b, 3), 0);
        }
        Check.due("10th bow(0)", x.bow(0), Check.FULL);
        Check.due("BEYOND is asked ahead of FULL", x.bow(7), Check.BEYOND);
        Check.due("count(1)", x.count(1), 9);
        Check.due("FULL counted", x.status(1), 1);
        Check.due("BEYOND counted", x.status(0), 7);
    }

    private static void promise3() {
        WhoBowsLast x = Check.made("bow love 60 seconds 9;falling love 43 seconds 7 ahead 1;rowed");
        long[] first = {0, 60, 9, 0, 60, 9, 60};
        long[] second = {3, 43, 7, 1, 43, 8, 43};
        for (int what = 0; what < 7; what++) {
            Check.due("of(0, " + what + ")", x.of(0, what), first[what]);
            Check.due("of(1, " + what + ")", x.of(1, what), second[what]);
        }
        x.come(0);
        Check.due("of(1, 6) behind 60: 43 + 6 - 17", x.of(1, 6), 32);
        x.come(1);
        Check.due("of(1, 6) behind itself: 43 + 4", x.of(1, 6), 47);
        Check.due("of(0, 6) behind the latest", x.of(0, 6), 60);
        x.back();
        Check.due("of(1, 6) behind 60 again", x.of(1, 6), 32);
        String before = Check.seen(x);
        Check.due("of(-1, 0)", x.of(-1, 0), Check.BEYOND);
        Check.due("of(3, 0)", x.of(3, 0), Check.BEYOND);
        Check.due("of(0, -1)", x.of(0, -1), Check.BEYOND);
        Check.due("of(0, 7)", x.of(0, 7), Check.BEYOND);
        for (int v : FAR) {
            Check.due("of(" + v + ", 0)", x.of(v, 0), Check.BEYOND);
            Check.due("of(0, " + v + ")", x.of(0, v), Check.BEYOND);
        }
        Check.dueText("of changes nothing", Check.seen(x), before);
    }

    private static void promise3ByKinds() {
        WhoBowsLast x = Check.made("bow love 43 seconds 7;bow love 1 seconds 1");
        long[] leaves = {43, 0, 43, 43, 86, 0, 50};
        long[] lasts = {7, 1, 7, 8, 13, 7, 3};
        long[] noise = {43, 10, 43, 43, 86, 48, 68};
        long[] shortest = {1, 1, 1, 2, 7, 1, 1};
        for (int kind = 0; kind < 7; kind++) {
            x.change(0, 0, kind);
            x.change(1, 0, kind);
            Check.due("kind " + kind + " LEAVES", x.of(0, 4), leaves[kind]);
            Check.due("kind " + kind + " LASTS", x.of(0, 5), lasts[kind]);
            Check.due("kind " + kind + " NOISE", x.of(0, 6), noise[kind]);
            Check.due("kind " + kind + " LASTS of 1 second", x.of(1, 5), shortest[kind]);
        }
        x.change(0, 2, 60);
        x.change(0, 0, 1);
        Check.due("ROWED LASTS of 60", x.of(0, 5), 15);
        x.change(0, 0, 6);
        Check.due("CHILD LASTS of 60", x.of(0, 5), 30);
    }

    private static void promise4() {
        WhoBowsLast x = Check.made("bow;bow;bow");
        Check.due("change(1, 0, 6)", x.change(1, 0, 6), 0);
        Check.due("change(1, 0, 0)", x.change(1, 0, 0), 6);
        Check.due("change(1, 1, 99)", x.change(1, 1, 99), 10);
        Check.due("change(1, 1, 0)", x.change(1, 1, 0), 99);
        Check.due("change(1, 2, 60)", x.change(1, 2, 60), 5);
        Check.due("change(1, 2, 1)", x.change(1, 2, 1), 60);
        Check.due("change(1, 3, 5)", x.change(1, 3, 5), 0);
        Check.due("change(1, 3, 4)", x.change(1, 3, 4), 5);
        Check.due("of(1, 3)", x.of(1, 3), 4);
        Check.due("change(1, 3, 0)", x.change(1, 3, 0), 4);
        Check.due("change(1, 3, 1)", x.change(1, 3, 1), 0);
        Check.due("of(0, 1) stays", x.of(0, 1), 10);
        String before = Check.seen(x);
        int[][] wrong = {
            {-1, 1, 3}, {3, 1, 3}, {0, -1, 3}, {0, 4, 3}, {0, 0, -1}, {0, 0, 7}, {0, 1, -1}, {0, 1, 100},
            {0, 2, 0}, {0, 2, 61}, {0, 3, -1}, {0, 3, 8}, {0, 3, 1}, {1, 3, 2}, {2, 3, 7}
        };
        for (int[] w : wrong) {
            Check.due("change(" + w[0] + ", " + w[1] + ", " + w[2] + ")", x.change(w[0], w[1], w[2]), Check.BEYOND);
        }
        for (int v : FAR) {
            Check.due("change(" + v + ", 1, 3)", x.change(v, 1, 3), Check.BEYOND);
            for (int what = 0; what < 4; what++) {
                Check.due("change(0, " + what + ", " + v + ")", x.change(0, what, v), Check.BEYOND);
            }
        }
        Check.dueText("wrong change changes nothing", Check.seen(x), before);
        Check.due("all counted", x.status(0), wrong.length + 5 * FAR.length);
        changeOnStage();
    }

    private static void changeOnStage() {
        WhoBowsLast x = Check.made("bow love 40;bow love 30;rising love 10");
        x.come(0);
        x.come(1);
        x.change(1, 0, 4);
        Check.due("HEARD as it was", x.now(1), 70);
        Check.due("CLOCK as it was", x.now(2), 10);
        Check.due("what it LEAVES is new", x.of(2, 6), 16);
    }

    private static void promise5() {
        WhoBowsLast x = Check.made("bow;bow;bow");
        Check.due("contract(0, 2, 1)", x.contract(0, 2, 1), 1);
        Check.due("contract(0, 2, 1) again", x.contract(0, 2, 1), 0);
        Check.due("of(2, 3)", x.of(2, 3), 1);
        Check.due("of(0, 3)", x.of(0, 3), 0);
        Check.due("contract(1, 2, 1)", x.contract(1, 2, 1), 1);
        Check.due("of(2, 3)", x.of(2, 3), 3);
        Check.due("contract(2, 0, 0): none there", x.contract(2, 0, 0), 0);
        Check.due("contract(0, 2, 0)", x.contract(0, 2, 0), 1);
        Check.due("contract(0, 2, 0) again", x.contract(0, 2, 0), 0);
        Check.due("of(2, 3)", x.of(2, 3), 2);
        String before = Check.seen(x);
        int[][] wrong = {{-1, 0, 1}, {3, 0, 1}, {0, -1, 1}, {0, 3, 1}, {1, 1, 1}, {0, 1, -1}, {0, 1, 2}, {2, 2, 0}};
        for (int[] w : wrong) {
            Check.due("contract(" + w[0] + ", " + w[1] + ", " + w[2] + ")", x.contract(w[0], w[1], w[2]), Check.BEYOND);
        }
        for (int v : FAR) {
            Check.due("contract(" + v + ", 1, 1)", x.contract(v, 1, 1), Check.BEYOND);
            Check.due("contract(1, " + v + ", 1)", x.contract(1, v, 1), Check.BEYOND);
            Check.due("contract(1, 0, " + v + ")", x.contract(1, 0, v), Check.BEYOND);
        }
        Check.dueText("wrong contract changes nothing", Check.seen(x), before);
    }

    private static void promise6() {
        WhoBowsLast x = new WhoBowsLast();
        int[] first = {1, 1, 20, 30, 60};
        int[] most = {9, 10, 99, 99, 999};
        for (int what = 0; what < 5; what++) {
            Check.due("rule(" + what + ", most)", x.rule(what, most[what]), first[what]);
            Check.due("rule(" + what + ", one more)", x.rule(what, most[what] + 1), Check.BEYOND);
            Check.due("rule(" + what + ", -1)", x.rule(what, -1), Check.BEYOND);
            for (int v : FAR) {
                Check.due("rule(" + what + ", " + v + ")", x.rule(what, v), Check.BEYOND);
            }
            Check.due("rule(" + what + ", 0)", x.rule(what, 0), most[what]);
            Check.due("rule(" + what + ", 3)", x.rule(what, 3), 0);
        }
        Check.due("rule(-1, 0)", x.rule(-1, 0), Check.BEYOND);
        Check.due("rule(5, 0)", x.rule(5, 0), Check.BEYOND);
        for (int v : FAR) {
            Check.due("rule(" + v + ", 0)", x.rule(v, 0), Check.BEYOND);
        }
        for (int what = 0; what < 5; what++) {
            Check.due("rule(" + what + ", 3) stays", x.rule(what, 3), 3);
        }
    }

    private static void promise7() {
        WhoBowsLast x = Check.made("bow love 43");
        // By p 0, 43, 44, 99, 999: FALLING 43; 43 + 4; 43 + 4 - 1; 43 + 9 - 56 is below 0.
        int[] ps = {0, 43, 44, 99, 999};
        long[][] noise = {
            {43, 43, 43, 43, 43},
            {10, 10, 10, 10, 10},
            {43, 47, 47, 52, 142},
            {43, 47, 46, 0, 0},
            {86, 94, 92, 0, 0},
            {48, 48, 48, 48, 48},
            {68, 68, 68, 68, 68}
        };
        for (int kind = 0; kind < 7; kind++) {
            x.change(0, 0, kind);
            for (int i = 0; i < ps.length; i++) {
                Check.due("kind " + kind + " noise(0, " + ps[i] + ")", x.noise(0, ps[i]), noise[kind][i]);
            }
        }
        x.change(0, 0, 1);
        x.change(0, 1, 3);
        Check.due("ROWED with love 3", x.noise(0, 0), 0);
        String before = Check.seen(x);
        Check.due("noise(1, 0)", x.noise(1, 0), Check.BEYOND);
        Check.due("noise(-1, 0)", x.noise(-1, 0), Check.BEYOND);
        Check.due("noise(0, -1)", x.noise(0, -1), Check.BEYOND);
        Check.due("noise(0, 1000)", x.noise(0, 1000), Check.BEYOND);
        for (int v : FAR) {
            Check.due("noise(" + v + ", 0)", x.noise(v, 0), Check.BEYOND);
            Check.due("noise(0, " + v + ")", x.noise(0, v), Check.BEYOND);
        }
        Check.dueText("noise changes nothing", Check.seen(x), before);
    }
}
