/** Promises 28 to 32: curtains, evenings. */
public final class CurtainsTest {
    private static final int[] FAR = {Integer.MIN_VALUE, -1, 9, Integer.MAX_VALUE};

    public static void main(String[] args) {
        promise28();
        promise28ByRules();
        promise29();
        promise30();
        promise31();
        promise32();
        Check.end();
    }

    private static WhoBowsLast ruled(int tires, int silent, int gain, int loss) {
        WhoBowsLast x = new WhoBowsLast();
        x.rule(0, tires);
        x.rule(1, silent);
        x.rule(2, gain);
        x.rule(3, loss);
        return x;
    }

    private static void worth(WhoBowsLast x, int c, long above, long below) {
        Check.due("curtain(" + c + ", 0)", x.curtain(c, 0), above);
        Check.due("curtain(" + c + ", 1)", x.curtain(c, 1), below);
    }

    private static void promise28() {
        WhoBowsLast x = new WhoBowsLast();
        // Number 3: 0.7 of 17 less 0.3 of 30; number 4: 0.6 of 16 less 0.4 of 30 is below 0.
        worth(x, 0, 10937, 250);
        worth(x, 1, 5937, 250);
        worth(x, 2, 268, 25);
        worth(x, 3, 29, 10);
        for (int c = 4; c <= 8; c++) {
            worth(x, c, 0, 1);
        }
        String before = Check.seen(x);
        for (int v : FAR) {
            worth(x, v, Check.BEYOND, Check.BEYOND);
        }
        Check.due("curtain(0, -1)", x.curtain(0, -1), Check.BEYOND);
        Check.due("curtain(0, 2)", x.curtain(0, 2), Check.BEYOND);
        Check.due("curtain(0, MIN)", x.curtain(0, Integer.MIN_VALUE), Check.BEYOND);
        Check.due("curtain(0, MAX)", x.curtain(0, Integer.MAX_VALUE), Check.BEYOND);
        Check.dueText("curtain changes nothing", Check.seen(x), before);
    }

    private static void promise28ByRules() {
        WhoBowsLast x = ruled(0, 0, 99, 99);
        worth(x, 0, 792, 1);
        worth(x, 7, 99, 1);
        x = ruled(9, 0, 99, 0);
        // 99, 90, .. 36: won less and less, but above 0.
        worth(x, 0, 540, 1);
        worth(x, 7, 36, 1);
        x = ruled(9, 0, 20, 0);
        // 20, 11 and 2; from number 3 on it is below 0.
        worth(x, 0, 33, 1);
        worth(x, 2, 2, 1);
        worth(x, 3, 0, 1);
        x = ruled(9, 4, 0, 0);
        // Odds are 10 tenths at most, else a loss twice below 0 would be won.
        worth(x, 3, 0, 1);
        worth(x, 2, 0, 1);
        x = ruled(0, 10, 20, 99);
        worth(x, 0, 20, 1);
        worth(x, 1, 0, 1);
        // The deepest fraction: 0.9 0.8 .. 0.3 of gains alone, told by a second way of reckoning.
        x = ruled(0, 1, 1, 0);
        long above = 0;
        for (int c = 7; c >= 0; c--) {
            long tens = (long) Math.pow(10, 7 - c);
            above = (10 - c) * (tens + above);
        }
        long a = above;
        long b = 100000000;
        while (b != 0) {
            long rest = a % b;
            a = b;
            b = rest;
        }
        worth(x, 0, above / a, 100000000 / a);
    }

    private static void promise29() {
        Check.due("stop()", new WhoBowsLast().stop(), 4);
        Check.due("stop() never", ruled(0, 0, 99, 99).stop(), 8);
        Check.due("stop() of no gain", ruled(0, 0, 0, 0).stop(), 0);
        Check.due("stop() behind one", ruled(0, 10, 20, 99).stop(), 1);
        Check.due("stop() at just 0", ruled(0, 10, 20, 0).stop(), 1);
        Check.due("stop() of a tired hall", ruled(9, 0, 20, 0).stop(), 3);
        Check.due("stop() of the last one", ruled(0, 1, 70, 30).stop(), 7);
        Check.due("stop() above it", ruled(0, 1, 71, 30).stop(), 8);
        WhoBowsLast x = new WhoBowsLast();
        x.stop();
        Check.due("stop() is no finding", x.status(-1), 0);
    }

    private static void promise30() {
        // The draws' rests by 10 with z 1: 4, 2, 6, 3, 7, 6, 0.
        long[] won = {20, 39, 57, 74, 90, 105, 75, 75};
        long[] z = {1103527590, -1770082073, 662824084, -999580867, -112468174, -1778682749, -639453696, -639453696};
        WhoBowsLast x = Check.made("bow love 50");
        x.come(0);
        for (int n = 1; n <= 8; n++) {
            x.seed(1);
            Check.due("evening(" + n + ")", x.evening(n), won[n - 1]);
            Check.due("z behind it", x.count(6), z[n - 1]);
        }
        x.seed(1);
        x.rule(1, 2);
        x.rule(0, 9);
        x.rule(2, 3);
        // 3; 3 - 9 by a rest of 2, not below 2; 3 - 18 by 6, not below 4; silent by 3, below 6.
        Check.due("evening(8) below 0", x.evening(8), -48);
        Check.due("z behind it", x.count(6), -999580867);
        x.seed(1);
        x.rule(1, 3);
        Check.due("evening(8) silent at number 1", x.evening(8), -27);
        x.seed(1);
        x.rule(1, 10);
        Check.due("evening(1): number 0 is never silent", x.evening(1), 3);
        x.seed(-5);
        x.rule(1, 0);
        x.rule(0, 0);
        Check.due("evening(8) never silent", x.evening(8), 24);
        Check.due("HEARD stays", x.now(1), 50);
        String before = Check.seen(x);
        for (int n : FAR) {
            Check.due("evening(" + n + ")", x.evening(n), Check.BEYOND);
        }
        Check.due("evening(0)", x.evening(0), Check.BEYOND);
        Check.dueText("a wrong evening draws nothing", Check.seen(x), before);
    }

    private static void promise31() {
        WhoBowsLast x = Check.made("bow love 40;rising love 30;bow love 20 seconds 6");
        // The draws are 4310654 by 3, 9862832 by 2 and one by 1.
        Check.due("lot()", x.lot(), 3);
        Check.due("stood(0)", x.stood(0), 2);
        Check.due("stood(1)", x.stood(1), 0);
        Check.due("stood(2)", x.stood(2), 1);
        Check.due("HEARD: 20 + 40 + 34", x.now(1), 94);
        Check.due("CLOCK", x.now(2), 16);
        Check.due("z behind three draws", x.count(6), 662824084);
        Check.due("lot() of none left", x.lot(), 0);
        Check.due("z behind no draw", x.count(6), 662824084);
        x = Check.made("bow;bow;bow ahead 2;bow");
        x.contract(3, 0, 1);
        x.contract(2, 1, 1);
        x.seed(12345);
        Check.due("lot() of those that can", x.lot(), 2);
        Check.due("stood(0)", x.stood(0), 3);
        Check.due("stood(1)", x.stood(1), 0);
        Check.due("z behind two draws", x.count(6), -1492899873);
        x = Check.made("bow;bow;bow;bow");
        x.come(1);
        x.seed(7);
        // Of 0, 2, 3 by 13397077 (rest 1): 2; of 0, 3 by 2510415 (rest 1): 3; then 0.
        Check.due("lot() behind one", x.lot(), 3);
        Check.due("stood(1)", x.stood(1), 2);
        Check.due("stood(2)", x.stood(2), 3);
        Check.due("stood(3)", x.stood(3), 0);
        Check.due("lot() of no bows", new WhoBowsLast().lot(), 0);
        Check.due("lot() is no finding", x.status(-1), 0);
    }

    private static void promise32() {
        WhoBowsLast x = new WhoBowsLast();
        Check.due("seed(7)", x.seed(7), 1);
        Check.due("seed(-1000001)", x.seed(-1000001), 7);
        Check.due("count(6)", x.count(6), -1000001);
        Check.due("seed(MIN)", x.seed(Integer.MIN_VALUE), -1000001);
        Check.due("seed(0)", x.seed(0), Integer.MIN_VALUE);
        Check.due("z is no finding", x.status(-1), 0);
        x.evening(1);
        Check.due("seed(3) behind a draw", x.seed(3), 12345);
    }
}
