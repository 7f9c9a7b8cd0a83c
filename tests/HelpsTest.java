/** Promises 21 to 27: what helps, unknown love. */
public final class HelpsTest {
    public static void main(String[] args) {
        promise21();
        promise22();
        promise23And24();
        promise25();
        promise26And27();
        nothingChanges();
        Check.end();
    }

    private static void promise21() {
        WhoBowsLast x = Check.made("bow love 80;rowed love 40");
        Check.due("between(0, 1) of two", x.between(0, 1), Check.NONE);
        Check.due("between(0, 0) of two", x.between(0, 0), Check.BEYOND);
        Check.due("between(0, 2) of two", x.between(0, 2), Check.BEYOND);
        Check.read(x, "rising love 30;bow love 37");
        // Behind 80: 38 + 10 or 37 + 10; behind 0: 30 + 80 or 37 + 80.
        Check.due("between(0, 1)", x.between(0, 1), 2);
        Check.due("between(1, 0)", x.between(1, 0), 3);
        x.come(2);
        x.contract(1, 2, 1);
        Check.due("between(0, 1) whoever has come", x.between(0, 1), 2);
        Check.due("between(2, 2)", x.between(2, 2), Check.BEYOND);
        Check.due("between(-1, 2)", x.between(-1, 2), Check.BEYOND);
        Check.due("between(2, 4)", x.between(2, 4), Check.BEYOND);
        Check.due("between(4, 2)", x.between(4, 2), Check.BEYOND);
        Check.due("between(MIN, MAX)", x.between(Integer.MIN_VALUE, Integer.MAX_VALUE), Check.BEYOND);
        // What c leaves counts for b: a falling one with love 20 behind 37 makes 6, behind 0 it makes 20.
        x = Check.made("bow;falling love 20;bow love 30;shielded love 25");
        Check.due("between(0, 1): 30 + 20 + 3 - 10 or 30 + 20", x.between(0, 1), 3);
        Check.due("between(1, 2)", x.between(1, 2), 3);
        x.change(0, 1, 99);
        Check.due("between(1, 2) with 0 loved more", x.between(1, 2), 0);
        Check.due("between of alike: the least", Check.made("bow;bow;bow;bow").between(0, 2), 1);
        x = Check.made("bow;bow;rowed love 0");
        Check.due("between of none loud", x.between(0, 1), 2);
    }

    private static void promise22() {
        WhoBowsLast x = Check.made("bow love 40;rising love 30 ahead 1;falling love 20 ahead 2");
        // 0 1 2 with 1 of kinds 0 to 6: 83, 67, 87, 77, 88, 95, 95.
        Check.due("kindFor(1)", x.kindFor(1), 5);
        Check.due("best(0) as it is", x.best(0), 87);
        x.change(1, 0, 5);
        Check.due("best(0) as kind 5", x.best(0), 95);
        Check.due("kindFor(1) whatever it is", x.kindFor(1), 5);
        x.change(1, 0, 2);
        // 2 behind 30: 20, 5, 23, 13, 26, 25, 45.
        Check.due("kindFor(2)", x.kindFor(2), 6);
        x.come(0);
        // Of 0, who has come, what it leaves counts: 40, 0, 40, 40, 80, 0, 50: 1 makes 34, 30, 34, 34, 38, 30, 35.
        Check.due("kindFor(0) of the latest", x.kindFor(0), 4);
        x.come(1);
        Check.due("kindFor(0) of one long ago: all alike", x.kindFor(0), 0);
        x.come(2);
        Check.due("kindFor(2) if all have come", x.kindFor(2), 0);
        Check.due("kindFor(3)", x.kindFor(3), Check.BEYOND);
        Check.due("kindFor(-1)", x.kindFor(-1), Check.BEYOND);
        Check.due("kindFor(MIN)", x.kindFor(Integer.MIN_VALUE), Check.BEYOND);
        Check.due("kindFor(MAX)", x.kindFor(Integer.MAX_VALUE), Check.BEYOND);
        x.clear();
        x.contract(2, 0, 1);
        Check.due("kindFor(0) of no way", x.kindFor(0), Check.NONE);
        Check.due("BEYOND is asked ahead of NONE", x.kindFor(3), Check.BEYOND);
    }

    private static void promise23And24() {
        WhoBowsLast x = Check.made("bow love 40;rising love 30;falling love 20");
        Check.due("freed() of no contracts", x.freed(), Check.NONE);
        Check.due("free() of no contracts", x.free(), Check.NONE);
        x.contract(0, 1, 1);
        x.contract(1, 2, 1);
        // Without 0 ahead of 1 at most 87, without 1 ahead of 2 at most 94.
        Check.due("freed()", x.freed(), 12);
        Check.due("free()", x.free(), 94);
        x.contract(2, 0, 1);
        // Of a ring each one frees: 120 83 without 01, 201 94 without 12, 012 87 without 20.
        Check.due("freed() of a ring", x.freed(), 12);
        Check.due("free() of a ring", x.free(), 94);
        x.contract(1, 0, 1);
        // 01 and 10 clash, 12 and 20 too with 01: without 01 there is 120.
        Check.due("freed() of one that clashes twice", x.freed(), 1);
        Check.due("free() of one that clashes twice", x.free(), 83);
        x.contract(2, 1, 1);
        Check.due("freed() of too many", x.freed(), Check.NONE);
        Check.due("free() of too many", x.free(), Check.NONE);
        Check.due("NONE counted", x.status(3), 4);
        x = Check.made("bow;bow;bow ahead 3;bow ahead 1");
        Check.due("freed() of alike: the least", x.freed(), 2);
        x.contract(3, 0, 0);
        x.come(0);
        x.come(1);
        x.come(2);
        x.come(3);
        Check.due("freed() if all have come", x.freed(), 2);
        Check.due("free() if all have come", x.free(), 0);
        x = Check.made("bow;bow");
        x.contract(1, 0, 1);
        Check.due("freed(): 10 a and b", x.freed(), 10);
        nineBows();
    }

    private static void nineBows() {
        WhoBowsLast x = new WhoBowsLast();
        for (int b = 0; b < 9; b++) {
            x.bow(0);
        }
        x.contract(8, 7, 1);
        Check.due("freed() of nine", x.freed(), 87);
        Check.due("free() of nine", x.free(), 90);
        x.change(0, 1, 99);
        Check.due("free() behind a change", x.free(), 179);
        x.change(0, 1, 10);
        x.contract(7, 8, 1);
        Check.due("freed() of a ring of nine", x.freed(), 78);
        Check.due("free() of a ring of nine", x.free(), 90);
        x.change(8, 1, 11);
        Check.due("between(0, 1) of nine", x.between(0, 1), 8);
        Check.due("between(8, 7) of nine", x.between(8, 7), 0);
        x.contract(7, 8, 0);
        Check.due("kindFor(8) of nine, the first or behind 10: twice 12", x.kindFor(8), 6);
        Check.due("train() of nine", x.train(), 9);
    }

    private static void promise25() {
        WhoBowsLast x = Check.made("bow love 40;rising love 30 ahead 1;falling love 20 ahead 2");
        // They last 5, 5 and 6.
        int[] trains = {0, 4, 5, 9, 10, 15, 16, 999};
        long[] many = {0, 0, 1, 1, 2, 2, 3, 3};
        for (int i = 0; i < trains.length; i++) {
            x.rule(4, trains[i]);
            Check.due("train() by " + trains[i], x.train(), many[i]);
        }
        x.come(0);
        x.rule(4, 10);
        Check.due("train() behind one", x.train(), 1);
        x.rule(4, 16);
        Check.due("train() behind one", x.train(), 2);
        x.rule(4, 3);
        Check.due("train() gone already", x.train(), 0);
        x.come(1);
        x.come(2);
        x.rule(4, 999);
        Check.due("train() if all have come", x.train(), 0);
        x.clear();
        x.contract(2, 0, 1);
        Check.due("train() of no way", x.train(), Check.NONE);
        Check.due("train() of no bows", new WhoBowsLast().train(), 0);
        // The first way with most noise is 2 0 1, and 2 lasts long.
        x = Check.made("bow love 40 seconds 1;rising love 30 seconds 1;falling love 20 seconds 50;train 50");
        Check.due("train() of 2 0 1", x.train(), 0);
        x.rule(4, 51);
        Check.due("train() of 2 0 1", x.train(), 1);
        x.rule(4, 52);
        Check.due("train() of 2 0 1", x.train(), 2);
    }

    private static void both(WhoBowsLast x, int p, int v, long many, long least) {
        Check.due("kind " + x.of(0, 0) + " fits(0, " + p + ", " + v + ")", x.fits(0, p, v), many);
        Check.due("kind " + x.of(0, 0) + " love(0, " + p + ", " + v + ")", x.love(0, p, v), least);
    }

    private static void promise26And27() {
        WhoBowsLast x = Check.made("bow");
        both(x, 999, 99, 1, 99);
        both(x, 0, 0, 1, 0);
        both(x, 0, 100, 0, Check.NONE);
        both(x, 0, -1, 0, Check.NONE);
        x.change(0, 0, 1);
        both(x, 0, 3, 4, 12);
        both(x, 0, 24, 4, 96);
        both(x, 0, 25, 0, Check.NONE);
        x.change(0, 0, 2);
        both(x, 999, 99, 1, 0);
        both(x, 999, 198, 1, 99);
        both(x, 999, 98, 0, Check.NONE);
        x.change(0, 0, 3);
        // Behind 50: twice love less 45 up to love 50, then love and 5.
        both(x, 50, 0, 23, 0);
        both(x, 50, 1, 1, 23);
        both(x, 50, 2, 0, Check.NONE);
        both(x, 50, 55, 1, 50);
        both(x, 50, 56, 1, 51);
        both(x, 50, 104, 1, 99);
        both(x, 999, 0, 100, 0);
        x.change(0, 0, 4);
        both(x, 50, 2, 1, 23);
        both(x, 50, 1, 0, Check.NONE);
        both(x, 0, 198, 1, 99);
        x.change(0, 0, 5);
        both(x, 7, 5, 1, 0);
        both(x, 7, 4, 0, Check.NONE);
        x.change(0, 0, 6);
        both(x, 7, 25, 1, 0);
        both(x, 7, 124, 1, 99);
        both(x, 7, Integer.MAX_VALUE, 0, Check.NONE);
        both(x, 7, Integer.MIN_VALUE, 0, Check.NONE);
        both(x, -1, 25, Check.BEYOND, Check.BEYOND);
        both(x, 1000, 25, Check.BEYOND, Check.BEYOND);
        both(x, Integer.MIN_VALUE, 25, Check.BEYOND, Check.BEYOND);
        both(x, Integer.MAX_VALUE, 25, Check.BEYOND, Check.BEYOND);
        int[] noBows = {-1, 1, Integer.MIN_VALUE, Integer.MAX_VALUE};
        for (int b : noBows) {
            Check.due("fits(" + b + ", 0, 0)", x.fits(b, 0, 0), Check.BEYOND);
            Check.due("love(" + b + ", 0, 0)", x.love(b, 0, 0), Check.BEYOND);
        }
        Check.due("its own love doesn't count", x.of(0, 1), 10);
    }

    private static void nothingChanges() {
        WhoBowsLast x = Check.made("bow love 40;rising love 30 ahead 1;falling love 20 ahead 2;last");
        x.come(0);
        String before = Check.seen(x);
        x.between(0, 1);
        x.kindFor(1);
        x.freed();
        x.free();
        x.train();
        x.fits(1, 2, 3);
        x.love(1, 2, 30);
        Check.dueText("helps change nothing", Check.seen(x), before);
        Check.due("and find nothing", x.status(-1), 20);
    }
}
