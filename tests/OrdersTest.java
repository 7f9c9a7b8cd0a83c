/** Promises 13 to 20: orders. */
public final class OrdersTest {
    public static void main(String[] args) {
        promise13();
        promise14();
        promise15();
        promise16();
        promise17();
        promise18();
        promise19();
        promise20();
        behindTheStage();
        nineBows();
        nineBowsInRings();
        asMuchAsItsLove();
        nothingChanges();
        Check.end();
    }

    /**
     * Noise and falls of its orders: 012 87, 2; 021 76, 1; 102 74, 1; 120 83, 1; 201 94, 1; 210 92, 0.
     */
    private static WhoBowsLast cast() {
        return Check.made("bow love 40;rising love 30;falling love 20");
    }

    /** 1, 2 and 3 in a ring, 0 ahead of them, 4 behind 3. */
    private static WhoBowsLast ring() {
        WhoBowsLast x = Check.made("bow;bow ahead 1;bow ahead 2;bow ahead 4;bow ahead 8");
        x.contract(3, 1, 1);
        return x;
    }

    private static void promise13() {
        WhoBowsLast x = cast();
        Check.due("best(0)", x.best(0), 94);
        Check.due("best(1)", x.best(1), 0);
        x.contract(0, 1, 1);
        Check.due("best(0) with 0 ahead of 1", x.best(0), 94);
        Check.due("best(1) with 0 ahead of 1", x.best(1), 1);
        x.contract(1, 2, 1);
        Check.due("best(0) of 012", x.best(0), 87);
        Check.due("best(1) of 012", x.best(1), 2);
        Check.due("best(-1)", x.best(-1), Check.BEYOND);
        Check.due("best(2)", x.best(2), Check.BEYOND);
        Check.due("best(MIN)", x.best(Integer.MIN_VALUE), Check.BEYOND);
        Check.due("best(MAX)", x.best(Integer.MAX_VALUE), Check.BEYOND);
        x.contract(2, 0, 1);
        Check.due("best(0) of no way", x.best(0), Check.NONE);
        Check.due("best(1) of no way", x.best(1), Check.NONE);
        Check.due("BEYOND is asked ahead of NONE", x.best(2), Check.BEYOND);
        WhoBowsLast none = new WhoBowsLast();
        Check.due("best(0) of no bows", none.best(0), 0);
        Check.due("best(1) of no bows", none.best(1), 0);
    }

    private static void order(WhoBowsLast x, int what, int... bows) {
        for (int i = 0; i < bows.length; i++) {
            Check.due("ith(" + what + ", " + i + ")", x.ith(what, i), bows[i]);
        }
        Check.due("ith(" + what + ", " + bows.length + ")", x.ith(what, bows.length), Check.NONE);
    }

    private static void promise14() {
        WhoBowsLast x = cast();
        order(x, 0, 2, 0, 1);
        order(x, 1, 2, 1, 0);
        x.contract(0, 1, 1);
        order(x, 0, 2, 0, 1);
        // 021 and 201 fall once each.
        order(x, 1, 0, 2, 1);
        Check.due("ith(-1, 0)", x.ith(-1, 0), Check.BEYOND);
        Check.due("ith(2, 0)", x.ith(2, 0), Check.BEYOND);
        Check.due("ith(0, -1)", x.ith(0, -1), Check.BEYOND);
        Check.due("ith(0, MIN)", x.ith(0, Integer.MIN_VALUE), Check.BEYOND);
        Check.due("ith(0, MAX)", x.ith(0, Integer.MAX_VALUE), Check.NONE);
        x.contract(1, 0, 1);
        Check.due("ith(0, 0) of no way", x.ith(0, 0), Check.NONE);
        Check.due("ith(0, -1) of no way", x.ith(0, -1), Check.BEYOND);
        order(Check.made("bow;bow;bow;bow"), 0, 0, 1, 2, 3);
        order(new WhoBowsLast(), 0);
        order(new WhoBowsLast(), 1);
        // Behind 0: 123 93, 132 113, 213 80, 231 72, 312 90, 321 110.
        x = Check.made("bow love 50;rising love 40 ahead 1;last love 30 ahead 1;falling love 20 ahead 1");
        Check.due("best(0)", x.best(0), 163);
        order(x, 0, 0, 1, 3, 2);
    }

    private static void promise15() {
        WhoBowsLast x = cast();
        Check.due("ways()", x.ways(), 6);
        x.contract(0, 1, 1);
        Check.due("ways() with 0 ahead of 1", x.ways(), 3);
        x.contract(1, 2, 1);
        Check.due("ways() of 012", x.ways(), 1);
        x.come(0);
        x.come(1);
        x.come(2);
        Check.due("ways() if all have come", x.ways(), 1);
        x.contract(2, 0, 1);
        Check.due("ways() if all have come, by a ring", x.ways(), 1);
        Check.due("ways() by a ring", ring().ways(), 0);
        Check.due("ways() of no bows", new WhoBowsLast().ways(), 1);
    }

    private static void promise16() {
        WhoBowsLast x = cast();
        Check.due("lasts()", x.lasts(), 7);
        x.contract(0, 1, 1);
        Check.due("lasts() with 0 ahead of 1", x.lasts(), 6);
        x.contract(1, 2, 1);
        Check.due("lasts() of 012", x.lasts(), 4);
        x.come(0);
        x.come(1);
        Check.due("lasts() of one left", x.lasts(), 4);
        x.come(2);
        Check.due("lasts() if all have come", x.lasts(), 0);
        Check.due("lasts() by a ring", ring().lasts(), 0);
        Check.due("lasts() is no finding", x.status(-1), 0);
        x = Check.made("bow;bow;bow");
        x.contract(2, 0, 1);
        Check.due("lasts() with 2 ahead of 0", x.lasts(), 3);
    }

    private static void promise17() {
        WhoBowsLast x = Check.made("bow;bow ahead 1;bow ahead 1;bow ahead 6;bow");
        long[] earliest = {0, 1, 1, 3, 0};
        long[] latest = {1, 3, 3, 4, 4};
        for (int b = 0; b < 5; b++) {
            Check.due("place(" + b + ", 0)", x.place(b, 0), earliest[b]);
            Check.due("place(" + b + ", 1)", x.place(b, 1), latest[b]);
        }
        x.come(0);
        Check.due("place(0, 0) has come", x.place(0, 0), Check.STATE);
        Check.due("place(3, 0)", x.place(3, 0), 2);
        Check.due("place(1, 0)", x.place(1, 0), 0);
        Check.due("place(1, 1)", x.place(1, 1), 2);
        x.contract(3, 1, 1);
        Check.due("place(4, 0) of no way", x.place(4, 0), Check.NONE);
        Check.due("STATE is asked ahead of NONE", x.place(0, 1), Check.STATE);
        Check.due("BEYOND is asked first", x.place(0, 2), Check.BEYOND);
        Check.due("place(5, 0)", x.place(5, 0), Check.BEYOND);
        Check.due("place(-1, 0)", x.place(-1, 0), Check.BEYOND);
        Check.due("place(1, -1)", x.place(1, -1), Check.BEYOND);
        Check.due("place(MIN, 0)", x.place(Integer.MIN_VALUE, 0), Check.BEYOND);
        Check.due("place(1, MAX)", x.place(1, Integer.MAX_VALUE), Check.BEYOND);
    }

    private static void promise18() {
        WhoBowsLast x = Check.made("bow;bow ahead 1;bow ahead 2;bow ahead 4;bow");
        long[] all = {0, 1, 3, 7, 0};
        for (int b = 0; b < 5; b++) {
            Check.due("all(" + b + ")", x.all(b), all[b]);
        }
        x.come(0);
        x.come(1);
        Check.due("all(3) whoever has come", x.all(3), 7);
        x = ring();
        Check.due("all(1) in a ring", x.all(1), 15);
        Check.due("all(4) behind a ring", x.all(4), 15);
        Check.due("all(0) ahead of a ring", x.all(0), 0);
        Check.due("all(5)", x.all(5), Check.BEYOND);
        Check.due("all(-1)", x.all(-1), Check.BEYOND);
        Check.due("all(MIN)", x.all(Integer.MIN_VALUE), Check.BEYOND);
        Check.due("all(MAX)", x.all(Integer.MAX_VALUE), Check.BEYOND);
        // Against the numbers, so that one pass by numbers isn't enough.
        x = new WhoBowsLast();
        for (int b = 0; b < 9; b++) {
            x.bow(0);
        }
        for (int b = 0; b < 8; b++) {
            x.contract(b + 1, b, 1);
        }
        Check.due("all(0) of a chain", x.all(0), 510);
    }

    private static void promise19() {
        Check.due("clash() of no bows", new WhoBowsLast().clash(), 0);
        WhoBowsLast x = ring();
        Check.due("clash() of a ring", x.clash(), 14);
        x.contract(3, 1, 0);
        Check.due("clash() of a chain", x.clash(), 0);
        x.contract(1, 0, 1);
        Check.due("clash() of a pair", x.clash(), 3);
        x.contract(4, 3, 1);
        Check.due("clash() of two pairs", x.clash(), 27);
        x.contract(1, 0, 0);
        x.come(0);
        x.contract(1, 0, 1);
        Check.due("clash() whoever has come", x.clash(), 27);
    }

    private static void promise20() {
        Check.due("broken() of no bows", new WhoBowsLast().broken(), 0);
        WhoBowsLast x = ring();
        Check.due("broken() of a ring", x.broken(), 1);
        x.contract(1, 0, 1);
        Check.due("broken() of a ring and a pair", x.broken(), 2);
        x.contract(1, 0, 0);
        x.come(0);
        x.contract(1, 0, 1);
        Check.due("broken() whoever has come", x.broken(), 2);
        x = Check.made("bow;bow ahead 1;bow ahead 2");
        Check.due("ways() of a chain", x.ways(), 1);
        Check.due("broken() behind ways()", x.broken(), 0);
        x.contract(1, 0, 1);
        x.contract(2, 0, 1);
        Check.due("broken(): one in two rings", x.broken(), 1);
        x = Check.made("bow;bow;bow;bow");
        for (int b = 0; b < 4; b++) {
            x.change(b, 3, 15 & ~(1 << b));
        }
        Check.due("broken(): each ahead of each", x.broken(), 6);
    }

    private static void behindTheStage() {
        WhoBowsLast x = cast();
        x.come(2);
        // Its own noise alone, the first by what 2 leaves (20): 01 40 + 34, 10 32 + 40.
        Check.due("best(0)", x.best(0), 74);
        Check.due("best(1)", x.best(1), 0);
        order(x, 0, 0, 1);
        order(x, 1, 1, 0);
        Check.due("ways()", x.ways(), 2);
        // 0 may come at once, though 1 should have come ahead of 2.
        x.contract(0, 1, 1);
        x.contract(1, 2, 1);
        x.contract(2, 0, 1);
        Check.due("ways()", x.ways(), 1);
        Check.due("lasts()", x.lasts(), 2);
        Check.due("place(0, 0)", x.place(0, 0), 0);
        Check.due("place(1, 1)", x.place(1, 1), 1);
        Check.due("clash()", x.clash(), 7);
        // One who has come though 1 should have come ahead: 2 and 3 may come ahead of 1 all the same.
        x = Check.made("bow love 50;falling love 40;bow love 20;bow love 40");
        x.come(0);
        x.contract(1, 0, 1);
        // 1 makes 44 behind 3, 42 behind 2, 35 behind 0.
        Check.due("best(0)", x.best(0), 104);
        Check.due("best(1): whoever is behind 0 falls", x.best(1), 1);
        order(x, 0, 2, 3, 1);
        x = Check.made("bow love 50;falling love 10;bow love 20");
        x.come(0);
        Check.due("the first falls behind the stage", x.best(1), 1);
        order(x, 1, 1, 2);
        x = Check.made("bow;bow;bow");
        x.come(1);
        x.contract(0, 1, 1);
        x.contract(1, 2, 1);
        Check.due("place(2, 0): a contract by one who has come", x.place(2, 0), 0);
        Check.due("place(0, 1): likewise", x.place(0, 1), 1);
        Check.due("lasts(): likewise", x.lasts(), 5);
    }

    private static void nineBows() {
        WhoBowsLast x = new WhoBowsLast();
        for (int b = 0; b < 9; b++) {
            x.bow(0);
            x.change(b, 1, 10 * b + 1);
        }
        Check.due("ways() of nine", x.ways(), 362880);
        Check.due("best(0) of nine", x.best(0), 369);
        Check.due("best(1) of nine", x.best(1), 0);
        order(x, 0, 0, 1, 2, 3, 4, 5, 6, 7, 8);
        order(x, 1, 0, 1, 2, 3, 4, 5, 6, 7, 8);
        Check.due("lasts() of nine", x.lasts(), 511);
        Check.due("place(8, 1) of nine", x.place(8, 1), 8);
        for (int b = 0; b < 8; b++) {
            x.contract(b + 1, b, 1);
        }
        Check.due("ways() of a chain", x.ways(), 1);
        order(x, 0, 8, 7, 6, 5, 4, 3, 2, 1, 0);
        Check.due("best(1) of a chain", x.best(1), 8);
        Check.due("place(0, 0) of a chain", x.place(0, 0), 8);
        Check.due("place(8, 1) of a chain", x.place(8, 1), 0);
    }

    private static void nineBowsInRings() {
        WhoBowsLast x = new WhoBowsLast();
        for (int b = 0; b < 9; b++) {
            x.bow(b % 7);
        }
        for (int b = 0; b < 9; b++) {
            x.contract(b, (b + 1) % 9, 1);
        }
        Check.due("clash() of nine", x.clash(), 511);
        Check.due("all(0) of nine", x.all(0), 511);
        Check.due("broken() of nine", x.broken(), 1);
        Check.due("best(0) of nine", x.best(0), Check.NONE);
        Check.due("ways() of nine", x.ways(), 0);
        for (int b = 0; b < 9; b++) {
            x.change(b, 3, 511 & ~(1 << b));
        }
        Check.due("broken(): each of nine ahead of each", x.broken(), 36);
        Check.due("lasts(): each of nine ahead of each", x.lasts(), 0);
        for (int b = 0; b < 9; b++) {
            x.change(b, 3, 0);
        }
        Check.due("lasts() without them", x.lasts(), 511);
    }

    private static void asMuchAsItsLove() {
        WhoBowsLast x = Check.made("bow;bow ahead 1");
        Check.due("behind as much as its love it doesn't fall", x.best(1), 0);
        x.change(0, 1, 11);
        Check.due("behind one more it does", x.best(1), 1);
        x.change(0, 1, 0);
        Check.due("the first one never falls", x.best(1), 0);
        x.come(0);
        Check.due("nor on the stage", x.now(5), 0);
    }

    private static void nothingChanges() {
        WhoBowsLast x = cast();
        x.come(1);
        x.contract(0, 2, 1);
        String before = Check.seen(x);
        x.best(0);
        x.best(1);
        x.ith(0, 1);
        x.ways();
        x.lasts();
        x.place(2, 0);
        x.all(2);
        x.clash();
        x.broken();
        Check.dueText("orders change nothing", Check.seen(x), before);
    }
}
