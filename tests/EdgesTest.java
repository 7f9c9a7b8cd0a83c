/** Promises 1 to 48, sentence by sentence: the edges that each one names. */
public final class EdgesTest {
    private static int promise;

    public static void main(String[] args) throws Exception {
        Doc.open(args);
        aNewObject();
        bow();
        of();
        change();
        contract();
        rule();
        noise();
        come();
        back();
        clear();
        stood();
        now();
        best();
        ith();
        ways();
        lasts();
        place();
        all();
        clash();
        broken();
        between();
        kindFor();
        freed();
        free();
        train();
        fits();
        love();
        curtain();
        stop();
        evening();
        lot();
        seed();
        feed();
        wipe();
        text();
        hold();
        as();
        sheet();
        write();
        copy();
        load();
        judge();
        loud();
        image();
        undo();
        tear();
        count();
        status();
        Doc.allSaid(1, 48);
        Check.end();
    }

    private static void says(String sentence) {
        Doc.says(promise, sentence);
    }

    private static void due(String call, long got, long want) {
        Doc.due(call, got, want);
    }

    private static WhoBowsLast nine() {
        return Check.made("bow;bow;bow;bow;bow;bow;bow;bow;bow");
    }

    /** 8 ahead of 7, 7 ahead of 6, and so on. */
    private static WhoBowsLast chain() {
        WhoBowsLast x = nine();
        for (int b = 0; b < 8; b++) {
            x.contract(b + 1, b, 1);
        }
        return x;
    }

    /** 1 and 2 need each other; 0 has come. */
    private static WhoBowsLast ring() {
        WhoBowsLast x = Check.made("bow;bow;bow ahead 2;contract 2 1");
        x.come(0);
        return x;
    }

    /** 40, 34 and 13, if they come by numbers, as they must. */
    private static WhoBowsLast row() {
        return Check.made("bow love 40 seconds 7;rising love 30 ahead 1;falling love 20 ahead 2");
    }

    private static void allCome(WhoBowsLast x) {
        for (int b = 0; b < x.count(1); b++) {
            x.come(b);
        }
    }

    private static void lay(WhoBowsLast x, int s, int bits, int... numbers) {
        x.sheet(s, bits, numbers.length);
        for (int i = 0; i < numbers.length; i++) {
            x.write(s, i, numbers[i]);
        }
    }

    private static void aNewObject() {
        promise = 1;
        says("All as at first; no BOWS; THE TAPE is empty, no image is kept");
        WhoBowsLast x = new WhoBowsLast();
        long[] counts = {0, 0, 0, 0, 0, 0, 1, 0};
        for (int what = 0; what < 8; what++) {
            due("count(" + what + ")", x.count(what), counts[what]);
        }
        due("of(0, 0)", x.of(0, 0), Check.BEYOND);
        due("text()", x.text(), -1);
        due("undo()", x.undo(), Check.NONE);
        due("tear()", x.tear(), 0);
        due("load(0)", x.load(0), Check.MISSING);
        due("status(-1)", x.status(-1), 3);
    }

    private static void bow() {
        promise = 2;
        says("A new BOW: its number");
        WhoBowsLast x = new WhoBowsLast();
        for (int b = 0; b < 9; b++) {
            due("bow(" + (b + 6) % 7 + ")", x.bow((b + 6) % 7), b);
            due("its kind", x.of(b, 0), (b + 6) % 7);
        }
        says("BEYOND");
        due("bow(-1)", x.bow(-1), Check.BEYOND);
        due("bow(7)", x.bow(7), Check.BEYOND);
        says("FULL");
        due("bow(0), a 10th", x.bow(0), Check.FULL);
        due("bow(6), a 10th", x.bow(6), Check.FULL);
        due("count(1)", x.count(1), 9);
    }

    private static void of() {
        promise = 3;
        says("Of a BOW: what 0 KIND, 1 LOVE, 2 SECONDS, 3 AHEAD, 4 what it LEAVES, 5 LASTS, 6 its NOISE, if it came now "
            + "(behind who came latest)");
        WhoBowsLast x = Check.made("last love 99 seconds 60;falling love 99 seconds 1 ahead 1");
        long[] due = {3, 99, 1, 1, 99, 2, 99};
        for (int what = 0; what < 7; what++) {
            due("of(1, " + what + ")", x.of(1, what), due[what]);
        }
        x.come(0);
        due("of(1, 6) behind 198: 99 + 19 - 99", x.of(1, 6), 19);
        due("of(0, 6) behind itself: twice 99 + 19 - 99", x.of(0, 6), 38);
        x.clear();
        due("of(1, 6) behind nobody", x.of(1, 6), 99);
        says("BEYOND");
        due("of(2, 0)", x.of(2, 0), Check.BEYOND);
        due("of(-1, 0)", x.of(-1, 0), Check.BEYOND);
        due("of(0, 7)", x.of(0, 7), Check.BEYOND);
        due("of(0, -1)", x.of(0, -1), Check.BEYOND);
        due("of(8, 0) of nine", nine().of(8, 0), 0);
        due("of(9, 0) of nine", nine().of(9, 0), Check.BEYOND);
    }

    private static void change() {
        promise = 4;
        says("KIND (what 0), LOVE (1), SECONDS (2), AHEAD (3: a set of other BOWS) of a BOW becomes v: what it was");
        WhoBowsLast x = nine();
        int[] least = {0, 0, 1, 0};
        int[] most = {6, 99, 60, 255};
        int[] first = {0, 10, 5, 0};
        for (int what = 0; what < 4; what++) {
            due("change(8, " + what + ", most)", x.change(8, what, most[what]), first[what]);
            due("change(8, " + what + ", least)", x.change(8, what, least[what]), most[what]);
            due("of(8, " + what + ")", x.of(8, what), least[what]);
        }
        due("a set of all others", x.change(0, 3, 510), 0);
        due("a set of all others", x.change(4, 3, 495), 0);
        says("BEYOND");
        for (int what = 0; what < 3; what++) {
            due("change(8, " + what + ", least - 1)", x.change(8, what, least[what] - 1), Check.BEYOND);
            due("change(8, " + what + ", most + 1)", x.change(8, what, most[what] + 1), Check.BEYOND);
        }
        due("itself in the set", x.change(8, 3, 256), Check.BEYOND);
        due("itself in the set of all", x.change(4, 3, 511), Check.BEYOND);
        due("a bow that isn't there", x.change(8, 3, 512), Check.BEYOND);
        due("a set below 0 without itself", x.change(0, 3, -2), Check.BEYOND);
        due("a set of but one sign", x.change(0, 3, Integer.MIN_VALUE), Check.BEYOND);
        due("change(9, 1, 3)", x.change(9, 1, 3), Check.BEYOND);
        due("change(-1, 1, 3)", x.change(-1, 1, 3), Check.BEYOND);
        due("change(0, 4, 3)", x.change(0, 4, 3), Check.BEYOND);
        due("change(0, -1, 3)", x.change(0, -1, 3), Check.BEYOND);
    }

    private static void contract() {
        promise = 5;
        says("A CONTRACT that a comes ahead of b is there (is 1) or not (0): 1 if that is new, else 0");
        WhoBowsLast x = nine();
        due("contract(8, 0, 0): none", x.contract(8, 0, 0), 0);
        due("contract(8, 0, 1)", x.contract(8, 0, 1), 1);
        due("contract(8, 0, 1) again", x.contract(8, 0, 1), 0);
        due("contract(0, 8, 1): the other way is another one", x.contract(0, 8, 1), 1);
        due("contract(8, 0, 0)", x.contract(8, 0, 0), 1);
        due("contract(8, 0, 0) again", x.contract(8, 0, 0), 0);
        due("of(8, 3)", x.of(8, 3), 1);
        says("BEYOND: also one and the same");
        due("contract(8, 8, 1)", x.contract(8, 8, 1), Check.BEYOND);
        due("contract(0, 0, 0)", x.contract(0, 0, 0), Check.BEYOND);
        due("contract(9, 0, 1)", x.contract(9, 0, 1), Check.BEYOND);
        due("contract(0, 9, 1)", x.contract(0, 9, 1), Check.BEYOND);
        due("contract(-1, 0, 1)", x.contract(-1, 0, 1), Check.BEYOND);
        due("contract(0, -1, 1)", x.contract(0, -1, 1), Check.BEYOND);
        due("contract(0, 1, 2)", x.contract(0, 1, 2), Check.BEYOND);
        due("contract(0, 1, -1)", x.contract(0, 1, -1), Check.BEYOND);
        due("count(2)", x.count(2), 1);
    }

    private static void rule() {
        promise = 6;
        says("A RULE (0 to 4) becomes v: what it was");
        WhoBowsLast x = new WhoBowsLast();
        int[] most = {9, 10, 99, 99, 999};
        int[] first = {1, 1, 20, 30, 60};
        for (int what = 0; what < 5; what++) {
            due("rule(" + what + ", most)", x.rule(what, most[what]), first[what]);
            due("rule(" + what + ", 0)", x.rule(what, 0), most[what]);
        }
        says("BEYOND");
        for (int what = 0; what < 5; what++) {
            due("rule(" + what + ", most + 1)", x.rule(what, most[what] + 1), Check.BEYOND);
            due("rule(" + what + ", -1)", x.rule(what, -1), Check.BEYOND);
            due("rule(" + what + ", 0) is as it was", x.rule(what, 0), 0);
        }
        due("rule(5, 0)", x.rule(5, 0), Check.BEYOND);
        due("rule(-1, 0)", x.rule(-1, 0), Check.BEYOND);
    }

    private static void noise() {
        promise = 7;
        says("NOISE of a BOW by p (0 to 999)");
        WhoBowsLast x = Check.made("rising love 99");
        due("noise(0, 0)", x.noise(0, 0), 99);
        due("noise(0, 999)", x.noise(0, 999), 198);
        x.come(0);
        due("noise(0, 0), whoever has come", x.noise(0, 0), 99);
        says("BEYOND");
        due("noise(0, -1)", x.noise(0, -1), Check.BEYOND);
        due("noise(0, 1000)", x.noise(0, 1000), Check.BEYOND);
        due("noise(1, 0)", x.noise(1, 0), Check.BEYOND);
        due("noise(-1, 0)", x.noise(-1, 0), Check.BEYOND);
        due("noise(0, 0) of no bows", new WhoBowsLast().noise(0, 0), Check.BEYOND);
    }

    private static void come() {
        promise = 8;
        says("A BOW COMES: its NOISE");
        WhoBowsLast x = row();
        due("come(0), the first", x.come(0), 40);
        due("come(1)", x.come(1), 34);
        due("come(2), the last", x.come(2), 13);
        x = chain();
        for (int b = 8; b >= 0; b--) {
            due("come(" + b + ") of a chain", x.come(b), 10);
        }
        says("BEYOND");
        due("come(9)", x.come(9), Check.BEYOND);
        due("come(-1)", x.come(-1), Check.BEYOND);
        due("come(0) of no bows", new WhoBowsLast().come(0), Check.BEYOND);
        says("STATE: it has come, or CAN'T");
        due("come(8) again", x.come(8), Check.STATE);
        due("come(0) again", x.come(0), Check.STATE);
        due("come(0) first in a chain", chain().come(0), Check.STATE);
        due("come(1) in a ring", ring().come(1), Check.STATE);
        x = Check.made("bow;bow;bow ahead 3");
        x.come(0);
        due("come(2) with but one of two there", x.come(2), Check.STATE);
        due("nobody came", x.now(0), 1);
    }

    private static void back() {
        promise = 9;
        says("The one who came latest goes back (HEARD, CLOCK, too): who");
        WhoBowsLast x = row();
        allCome(x);
        x.change(2, 1, 99);
        x.change(2, 2, 60);
        due("back() of three", x.back(), 2);
        due("HEARD", x.now(1), 74);
        due("CLOCK", x.now(2), 12);
        due("back() of two", x.back(), 1);
        due("back() of one", x.back(), 0);
        due("HEARD", x.now(1), 0);
        due("CLOCK", x.now(2), 0);
        says("NONE: nobody has come");
        due("back() of none", x.back(), Check.NONE);
        due("back() of no bows", new WhoBowsLast().back(), Check.NONE);
        due("come(0) behind it", x.come(0), 40);
    }

    private static void clear() {
        promise = 10;
        says("All go back: how many had come");
        due("clear() of no bows", new WhoBowsLast().clear(), 0);
        WhoBowsLast x = nine();
        due("clear() of none", x.clear(), 0);
        allCome(x);
        due("clear() of nine", x.clear(), 9);
        due("HEARD", x.now(1), 0);
        due("CLOCK", x.now(2), 0);
        due("who has come", x.now(3), 0);
        due("clear() again", x.clear(), 0);
        due("back() behind it", x.back(), Check.NONE);
        due("clear() is no finding", x.status(-1), 1);
    }

    private static void stood() {
        promise = 11;
        says("Who came as number i (from 0)");
        WhoBowsLast x = chain();
        for (int b = 8; b >= 0; b--) {
            x.come(b);
        }
        due("stood(0)", x.stood(0), 8);
        due("stood(8)", x.stood(8), 0);
        says("BEYOND: i is below 0");
        due("stood(-1)", x.stood(-1), Check.BEYOND);
        due("stood(MIN)", x.stood(Integer.MIN_VALUE), Check.BEYOND);
        says("NONE: not so many");
        due("stood(9) of nine", x.stood(9), Check.NONE);
        due("stood(MAX)", x.stood(Integer.MAX_VALUE), Check.NONE);
        x.back();
        due("stood(8) gone back", x.stood(8), Check.NONE);
        due("stood(0) of none", new WhoBowsLast().stood(0), Check.NONE);
    }

    private static void now() {
        promise = 12;
        says("What 0 how many have come, 1 HEARD, 2 CLOCK, 3 who has come, as a set, 4 who CAN come now, as a set, "
            + "5 FALLS of THE STAGE");
        WhoBowsLast x = nine();
        long[] none = {0, 0, 0, 0, 511, 0};
        long[] nine = {9, 90, 45, 511, 0, 0};
        for (int what = 0; what < 6; what++) {
            due("now(" + what + ") of none", x.now(what), none[what]);
            due("now(" + what + ") of no bows", new WhoBowsLast().now(what), 0);
        }
        allCome(x);
        for (int what = 0; what < 6; what++) {
            due("now(" + what + ") of nine", x.now(what), nine[what]);
        }
        due("who CAN come in a chain", chain().now(4), 256);
        due("who CAN come in a ring", ring().now(4), 0);
        says("BEYOND");
        due("now(6)", x.now(6), Check.BEYOND);
        due("now(-1)", x.now(-1), Check.BEYOND);
    }

    private static void best() {
        promise = 13;
        says("The most NOISE (what 0), the fewest FALLS (1) of a WAY, its own alone");
        due("best(0) of no bows", new WhoBowsLast().best(0), 0);
        due("best(1) of no bows", new WhoBowsLast().best(1), 0);
        WhoBowsLast x = row();
        due("best(0)", x.best(0), 87);
        due("best(1)", x.best(1), 2);
        x.come(0);
        due("best(0) without what was HEARD", x.best(0), 47);
        due("best(1) behind the stage", x.best(1), 2);
        x.come(1);
        due("best(1) without the stage's", x.best(1), 1);
        x.come(2);
        due("best(0), all have come", x.best(0), 0);
        due("best(1), all have come", x.best(1), 0);
        // The 9th as a child 35, as the 8th a rising one behind 50: 15.
        x = nine();
        x.change(8, 0, 6);
        due("best(0) with another 9th", x.best(0), 115);
        x.change(7, 0, 2);
        due("best(0) with another 8th", x.best(0), 120);
        says("BEYOND");
        due("best(2)", x.best(2), Check.BEYOND);
        due("best(-1)", x.best(-1), Check.BEYOND);
        says("NONE: there is no WAY");
        due("best(0) in a ring", ring().best(0), Check.NONE);
        due("best(1) in a ring", ring().best(1), Check.NONE);
    }

    private static void ith() {
        promise = 14;
        says("The i-th (from 0) BOW of the first such WAY");
        WhoBowsLast x = chain();
        due("ith(0, 0)", x.ith(0, 0), 8);
        due("ith(0, 8)", x.ith(0, 8), 0);
        due("ith(1, 0)", x.ith(1, 0), 8);
        due("ith(1, 8)", x.ith(1, 8), 0);
        // 2 0 1 has most noise, 2 1 0 no fall.
        WhoBowsLast y = Check.made("bow love 40;rising love 30;falling love 20");
        due("ith(0, 1)", y.ith(0, 1), 0);
        due("ith(1, 1)", y.ith(1, 1), 1);
        says("BEYOND: what; i is below 0");
        due("ith(2, 0)", x.ith(2, 0), Check.BEYOND);
        due("ith(-1, 0)", x.ith(-1, 0), Check.BEYOND);
        due("ith(0, -1)", x.ith(0, -1), Check.BEYOND);
        due("ith(1, MIN)", x.ith(1, Integer.MIN_VALUE), Check.BEYOND);
        says("NONE: there is no WAY, or it has not so many");
        due("ith(0, 9)", x.ith(0, 9), Check.NONE);
        due("ith(0, MAX)", x.ith(0, Integer.MAX_VALUE), Check.NONE);
        due("ith(0, 0) in a ring", ring().ith(0, 0), Check.NONE);
        due("ith(0, 0) of no bows", new WhoBowsLast().ith(0, 0), Check.NONE);
        x.come(8);
        due("ith(0, 7) of eight left", x.ith(0, 7), 0);
        due("ith(0, 8) of eight left", x.ith(0, 8), Check.NONE);
    }

    private static void ways() {
        promise = 15;
        says("How many WAYS there are (1, if all have come)");
        due("ways() of no bows", new WhoBowsLast().ways(), 1);
        due("ways() in a ring", ring().ways(), 0);
        due("ways() in a chain", chain().ways(), 1);
        WhoBowsLast x = nine();
        due("ways() of nine", x.ways(), 362880);
        x.come(4);
        due("ways() of eight left", x.ways(), 40320);
        allCome(x);
        due("ways(), all have come", x.ways(), 1);
        x.contract(4, 0, 1);
        x.contract(0, 4, 1);
        due("ways(), all have come, by a ring", x.ways(), 1);
        due("ways() of 0 is no finding", x.status(3), 0);
    }

    private static void lasts() {
        promise = 16;
        says("BOWS that are the last one of some WAY, as a set (0: none, too)");
        due("lasts() of no bows", new WhoBowsLast().lasts(), 0);
        due("lasts() of nine", nine().lasts(), 511);
        due("lasts() in a chain", chain().lasts(), 1);
        WhoBowsLast x = ring();
        due("lasts() in a ring", x.lasts(), 0);
        due("that is no finding", x.status(-1), 0);
        x = row();
        allCome(x);
        due("lasts(), all have come", x.lasts(), 0);
        x.back();
        due("lasts() of one left", x.lasts(), 4);
        // 1 who must come ahead of 0 is there: 0 needs nobody any more.
        x = Check.made("bow;bow;bow;contract 1 0");
        due("lasts() of three", x.lasts(), 5);
        x.come(1);
        due("lasts() of two left", x.lasts(), 5);
    }

    private static void place() {
        promise = 17;
        says("The place in a WAY (0: the next one) at which a BOW may come at the earliest (what 0), at the latest (1)");
        due("place(8, 0) of nine", nine().place(8, 0), 0);
        due("place(0, 1) of nine", nine().place(0, 1), 8);
        WhoBowsLast x = chain();
        due("place(0, 0) in a chain", x.place(0, 0), 8);
        due("place(8, 1) in a chain", x.place(8, 1), 0);
        x.come(8);
        due("place(0, 0) behind one", x.place(0, 0), 7);
        due("place(7, 1) behind one", x.place(7, 1), 0);
        says("BEYOND");
        due("place(9, 0)", x.place(9, 0), Check.BEYOND);
        due("place(-1, 0)", x.place(-1, 0), Check.BEYOND);
        due("place(0, 2)", x.place(0, 2), Check.BEYOND);
        due("place(0, -1)", x.place(0, -1), Check.BEYOND);
        says("STATE: it has come");
        due("place(8, 0)", x.place(8, 0), Check.STATE);
        due("place(0, 1) in a ring", ring().place(0, 1), Check.STATE);
        says("NONE: there is no WAY");
        due("place(1, 0) in a ring", ring().place(1, 0), Check.NONE);
        due("place(2, 1) in a ring", ring().place(2, 1), Check.NONE);
    }

    private static void all() {
        promise = 18;
        says("All that must come ahead of a BOW by CONTRACTS and CONTRACTS of these (and so on), as a set");
        due("all(0) of nine", nine().all(0), 0);
        WhoBowsLast x = chain();
        due("all(0) in a chain", x.all(0), 510);
        due("all(8) in a chain", x.all(8), 0);
        x.contract(0, 8, 1);
        due("all(8) in a ring: itself, too", x.all(8), 511);
        x = ring();
        x.contract(1, 0, 1);
        due("all(0), though it has come", x.all(0), 6);
        says("BEYOND");
        due("all(3)", x.all(3), Check.BEYOND);
        due("all(-1)", x.all(-1), Check.BEYOND);
        due("all(0) of no bows", new WhoBowsLast().all(0), Check.BEYOND);
    }

    private static void clash() {
        promise = 19;
        says("BOWS that so must come ahead of themselves, as a set");
        due("clash() of no bows", new WhoBowsLast().clash(), 0);
        due("clash() in a chain", chain().clash(), 0);
        due("clash() in a ring", ring().clash(), 6);
        WhoBowsLast x = chain();
        x.contract(0, 8, 1);
        due("clash() in a ring of nine", x.clash(), 511);
        x = ring();
        x.contract(1, 0, 1);
        due("clash(): 0 behind a ring isn't in it", x.clash(), 6);
        x.contract(0, 2, 1);
        due("clash(): 0 in the ring, though it has come", x.clash(), 7);
    }

    private static void broken() {
        promise = 20;
        says("How few CONTRACTS must be broken so that there is an ORDER of all BOWS (whoever has come)");
        due("broken() of no bows", new WhoBowsLast().broken(), 0);
        due("broken() in a chain", chain().broken(), 0);
        due("broken() in a ring", ring().broken(), 1);
        WhoBowsLast x = nine();
        for (int b = 0; b < 9; b++) {
            x.change(b, 3, 511 - (1 << b));
        }
        due("broken() with each ahead of each", x.broken(), 36);
        x = Check.made("bow;bow;bow");
        allCome(x);
        x.contract(1, 0, 1);
        due("broken(): though 0 came ahead of 1", x.broken(), 0);
        x.contract(0, 1, 1);
        due("broken(), all have come", x.broken(), 1);
    }

    private static void between() {
        promise = 21;
        says("The third BOW that, right between two (a, then c, then b), makes NOISE of c and b together most, by what a LEAVES");
        WhoBowsLast x = Check.made("bow love 80;rowed love 40;rising love 30;bow love 37");
        due("between(0, 1): 38 + 10 or 37 + 10", x.between(0, 1), 2);
        due("between(1, 0): 30 + 80 or 37 + 80", x.between(1, 0), 3);
        allCome(x);
        due("between(1, 0), whoever has come", x.between(1, 0), 3);
        due("between(1, 2) of none loud", Check.made("rowed love 0;rowed love 0;rowed love 0").between(1, 2), 0);
        due("between(7, 8) of nine", nine().between(7, 8), 0);
        due("between(0, 1) of nine", nine().between(0, 1), 2);
        says("BEYOND: also one and the same");
        due("between(1, 1)", x.between(1, 1), Check.BEYOND);
        due("between(4, 1)", x.between(4, 1), Check.BEYOND);
        due("between(1, 4)", x.between(1, 4), Check.BEYOND);
        due("between(-1, 1)", x.between(-1, 1), Check.BEYOND);
        due("between(1, -1)", x.between(1, -1), Check.BEYOND);
        says("NONE: there are only two");
        due("between(0, 1) of two", Check.made("bow;bow").between(0, 1), Check.NONE);
        due("between(0, 1) of three", Check.made("bow;bow;bow").between(0, 1), 2);
    }

    private static void kindFor() {
        promise = 22;
        says("The KIND as which a BOW makes the most NOISE of a WAY greatest");
        due("kindFor(0) of love 24: 48 as 4, 49 as 6", Check.made("bow love 24").kindFor(0), 6);
        due("kindFor(0) of love 26: 52 as 4, 51 as 6", Check.made("bow love 26").kindFor(0), 4);
        WhoBowsLast x = row();
        due("kindFor(1)", x.kindFor(1), 5);
        due("its kind stays", x.of(1, 0), 2);
        allCome(x);
        due("kindFor(2), all have come", x.kindFor(2), 0);
        due("kindFor(8) of nine", nine().kindFor(8), 6);
        says("BEYOND");
        due("kindFor(3)", x.kindFor(3), Check.BEYOND);
        due("kindFor(-1)", x.kindFor(-1), Check.BEYOND);
        says("NONE: there is no WAY");
        due("kindFor(0) in a ring", ring().kindFor(0), Check.NONE);
        due("kindFor(1) in a ring", ring().kindFor(1), Check.NONE);
    }

    private static void freed() {
        promise = 23;
        says("The CONTRACT (10 a and b: a ahead of b) without which the most NOISE of a WAY is greatest; of several the least");
        WhoBowsLast x = row();
        // Without 0 ahead of 1 at most 87, without 1 ahead of 2 at most 94.
        due("freed()", x.freed(), 12);
        due("count(2) stays", x.count(2), 2);
        due("freed() of a chain of nine alike", chain().freed(), 10);
        WhoBowsLast y = nine();
        y.contract(8, 7, 1);
        due("freed() of but one", y.freed(), 87);
        y.contract(7, 8, 1);
        due("freed() of a ring: the least", y.freed(), 78);
        says("NONE: there are no CONTRACTS, or no WAY without any one");
        due("freed() of no contracts", nine().freed(), Check.NONE);
        due("freed() of no bows", new WhoBowsLast().freed(), Check.NONE);
        due("freed() of two rings", Check.made("bow;bow ahead 1;contract 1 0;bow;bow ahead 4;contract 3 2").freed(), Check.NONE);
        due("freed() of one ring", ring().freed(), 12);
    }

    private static void free() {
        promise = 24;
        says("What that is then");
        WhoBowsLast x = row();
        due("free()", x.free(), 94);
        due("best(0) stays", x.best(0), 87);
        due("free() of one ring", ring().free(), 20);
        allCome(x);
        due("free(), all have come", x.free(), 0);
        says("NONE likewise");
        due("free() of no contracts", nine().free(), Check.NONE);
        due("free() of no bows", new WhoBowsLast().free(), Check.NONE);
        due("free() of two rings", Check.made("bow;bow ahead 1;contract 1 0;bow;bow ahead 4;contract 3 2").free(), Check.NONE);
    }

    private static void train() {
        promise = 25;
        says("How many of the BOWS of the first WAY with most NOISE would have come, with CLOCK behind them TRAIN at most");
        due("train() of no bows", new WhoBowsLast().train(), 0);
        WhoBowsLast x = row();
        // They last 7, 5 and 6.
        int[] trains = {0, 6, 7, 11, 12, 17, 18, 999};
        long[] many = {0, 0, 1, 1, 2, 2, 3, 3};
        for (int i = 0; i < trains.length; i++) {
            x.rule(4, trains[i]);
            due("train() by " + trains[i], x.train(), many[i]);
        }
        x.come(0);
        x.rule(4, 12);
        due("train() behind the stage", x.train(), 1);
        x.rule(4, 6);
        due("train() gone already", x.train(), 0);
        x.rule(4, 999);
        allCome(x);
        due("train(), all have come", x.train(), 0);
        // 2 0 1 has most noise, 2 1 0 no fall; 2 lasts 6.
        due("train() of 2 0 1", Check.made("bow love 40 seconds 20;rising love 30 seconds 1;falling love 20;train 7").train(), 1);
        says("NONE: there is no WAY");
        due("train() in a ring", ring().train(), Check.NONE);
    }

    private static void fits() {
        promise = 26;
        says("How many LOVES (0 to 99) there are by which a BOW, behind p (0 to 999), brings NOISE v");
        WhoBowsLast x = Check.made("bow;rowed;falling;last");
        due("fits(0, 0, -1)", x.fits(0, 0, -1), 0);
        due("fits(0, 0, 0)", x.fits(0, 0, 0), 1);
        due("fits(0, 999, 99)", x.fits(0, 999, 99), 1);
        due("fits(0, 0, 100)", x.fits(0, 0, 100), 0);
        due("fits(1, 0, 24)", x.fits(1, 0, 24), 4);
        due("fits(1, 0, 25)", x.fits(1, 0, 25), 0);
        due("fits(2, 999, 0)", x.fits(2, 999, 0), 100);
        due("fits(3, 0, 198)", x.fits(3, 0, 198), 1);
        due("fits(0, 0, MAX)", x.fits(0, 0, Integer.MAX_VALUE), 0);
        due("fits(0, 0, MIN)", x.fits(0, 0, Integer.MIN_VALUE), 0);
        due("none is no finding", x.status(-1), 0);
        says("BEYOND");
        due("fits(4, 0, 0)", x.fits(4, 0, 0), Check.BEYOND);
        due("fits(-1, 0, 0)", x.fits(-1, 0, 0), Check.BEYOND);
        due("fits(0, -1, 0)", x.fits(0, -1, 0), Check.BEYOND);
        due("fits(0, 1000, 0)", x.fits(0, 1000, 0), Check.BEYOND);
    }

    private static void love() {
        promise = 27;
        says("The least such");
        WhoBowsLast x = Check.made("bow;rowed;falling");
        due("love(0, 0, 0)", x.love(0, 0, 0), 0);
        due("love(0, 999, 99)", x.love(0, 999, 99), 99);
        due("love(1, 0, 24)", x.love(1, 0, 24), 96);
        due("love(2, 999, 0)", x.love(2, 999, 0), 0);
        due("love(2, 0, 0)", x.love(2, 0, 0), 0);
        says("BEYOND");
        due("love(3, 0, 0)", x.love(3, 0, 0), Check.BEYOND);
        due("love(-1, 0, 0)", x.love(-1, 0, 0), Check.BEYOND);
        due("love(0, -1, 0)", x.love(0, -1, 0), Check.BEYOND);
        due("love(0, 1000, 0)", x.love(0, 1000, 0), Check.BEYOND);
        says("NONE");
        due("love(0, 0, -1)", x.love(0, 0, -1), Check.NONE);
        due("love(0, 0, 100)", x.love(0, 0, 100), Check.NONE);
        due("love(1, 0, 25)", x.love(1, 0, 25), Check.NONE);
        due("love(0, 0, MIN)", x.love(0, 0, Integer.MIN_VALUE), Check.NONE);
    }

    private static WhoBowsLast ruled(int tires, int silent, int gain, int loss) {
        return Check.made("tires " + tires + ";silent " + silent + ";gain " + gain + ";loss " + loss);
    }

    private static void curtain() {
        promise = 28;
        says("WORTH from CURTAIN c (0 to 8) on: a fraction in lowest terms: above (what 0), below the line (1)");
        WhoBowsLast x = new WhoBowsLast();
        due("curtain(0, 0)", x.curtain(0, 0), 10937);
        due("curtain(0, 1)", x.curtain(0, 1), 250);
        due("curtain(7, 0): 0", x.curtain(7, 0), 0);
        due("curtain(7, 1): below 0", x.curtain(7, 1), 1);
        due("curtain(8, 0)", x.curtain(8, 0), 0);
        due("curtain(8, 1)", x.curtain(8, 1), 1);
        due("a whole one", ruled(0, 0, 99, 0).curtain(0, 1), 1);
        // 0.3 and then 0.4 of it and 0.4, .. : 3 of 10, 52 of 100, 760 of 1000, 10560 of 10000, ..
        x = ruled(0, 1, 1, 0);
        due("curtain(7, 0)", x.curtain(7, 0), 3);
        due("curtain(7, 1)", x.curtain(7, 1), 10);
        due("curtain(6, 0)", x.curtain(6, 0), 13);
        due("curtain(6, 1)", x.curtain(6, 1), 25);
        due("curtain(5, 0)", x.curtain(5, 0), 19);
        due("curtain(5, 1)", x.curtain(5, 1), 25);
        says("BEYOND");
        due("curtain(9, 0)", x.curtain(9, 0), Check.BEYOND);
        due("curtain(-1, 0)", x.curtain(-1, 0), Check.BEYOND);
        due("curtain(0, 2)", x.curtain(0, 2), Check.BEYOND);
        due("curtain(8, -1)", x.curtain(8, -1), Check.BEYOND);
    }

    private static void stop() {
        promise = 29;
        says("The first CURTAIN from which on WORTH is 0 (0 to 8)");
        due("stop() at once", ruled(0, 0, 0, 0).stop(), 0);
        due("stop() behind number 0", ruled(9, 10, 1, 99).stop(), 1);
        due("stop() at number 7 by just 0", ruled(0, 1, 70, 30).stop(), 7);
        due("stop() at none", ruled(0, 1, 71, 30).stop(), 8);
        due("stop() with a gain just above 0", ruled(9, 0, 64, 99).stop(), 8);
        due("stop() with a gain of just 0", ruled(9, 0, 63, 99).stop(), 7);
    }

    private static void evening() {
        promise = 30;
        says("n CURTAINS (1 to 8) go up, one behind the other, from number 0 on, till one is silent (if the rest of a draw by "
            + "10 is below SILENT times its number): what is won, less what is lost");
        // The rests with z 1: 4, 2, 6, 3, 7, 6, 0, 6.
        WhoBowsLast x = ruled(1, 2, 20, 30);
        due("evening(1)", x.evening(1), 20);
        x.seed(1);
        due("evening(2): 2 isn't below 2", x.evening(2), 39);
        x.seed(1);
        x.rule(1, 3);
        due("evening(2): 2 is below 3", x.evening(2), -10);
        due("it draws no more", x.seed(1), -1770082073);
        due("evening(1) never silent", x.evening(1), 20);
        x.seed(1);
        x.rule(1, 0);
        due("evening(8) never silent", x.evening(8), 132);
        due("it draws eight times", x.count(6), -1661227463);
        says("BEYOND");
        due("evening(0)", x.evening(0), Check.BEYOND);
        due("evening(9)", x.evening(9), Check.BEYOND);
        due("evening(-1)", x.evening(-1), Check.BEYOND);
        due("it draws nothing", x.count(6), -1661227463);
    }

    private static void lot() {
        promise = 31;
        says("As long as any CAN come: of those that CAN (by numbers) the one whose number from 0 is the rest of a draw by how "
            + "many there are COMES: how many came");
        due("lot() of no bows", new WhoBowsLast().lot(), 0);
        WhoBowsLast x = ring();
        due("lot() in a ring", x.lot(), 0);
        due("it draws nothing", x.count(6), 1);
        x = chain();
        due("lot() in a chain", x.lot(), 9);
        due("stood(0)", x.stood(0), 8);
        due("stood(8)", x.stood(8), 0);
        due("HEARD", x.now(1), 90);
        due("CLOCK", x.now(2), 45);
        due("lot() of none left", x.lot(), 0);
        x = Check.made("bow;bow;bow;bow;contract 0 3");
        x.come(0);
        // Of 1, 2, 3 by 8621261 the last, of 1, 2 by 5841227 the last.
        x.seed(2);
        due("lot() behind one", x.lot(), 3);
        due("stood(1)", x.stood(1), 3);
        due("stood(2)", x.stood(2), 2);
        due("stood(3)", x.stood(3), 1);
        due("z", x.count(6), -1476419255);
    }

    private static void seed() {
        promise = 32;
        says("z becomes v: what it was");
        WhoBowsLast x = new WhoBowsLast();
        due("seed(MIN)", x.seed(Integer.MIN_VALUE), 1);
        due("seed(MAX)", x.seed(Integer.MAX_VALUE), Integer.MIN_VALUE);
        due("seed(0)", x.seed(0), Integer.MAX_VALUE);
        due("seed(-1)", x.seed(-1), 0);
        due("seed(-1000004)", x.seed(-1000004), -1);
        due("seed(1)", x.seed(1), -1000004);
        due("no finding", x.status(-1), 0);
    }

    private static void feed() {
        promise = 33;
        says("THE TAPE gets the n lowest bytes of a number behind it, the highest of these first (n 1 to 4): how many it has");
        WhoBowsLast x = new WhoBowsLast();
        due("feed(..g, 1)", x.feed(0xffffff67, 1), 1);
        due("feed(..ain, 3)", x.feed(0xff61696e, 3), 4);
        due("feed(.. 7, 2)", x.feed(0xffff2037, 2), 6);
        due("feed(;   , 4)", x.feed(0x3b202020, 4), 10);
        due("feed(loss, 4)", x.feed(0x6c6f7373, 4), 14);
        due("feed(08, 2)", x.feed(0x00003038, 2), 16);
        due("text()", x.text(), 2);
        due("gain", x.rule(2, 0), 7);
        due("loss", x.rule(3, 0), 8);
        due("feed(255 255 255 255, 4)", x.feed(-1, 4), 4);
        due("its first byte begins no token", x.text(), -1);
        says("BEYOND: n");
        due("feed(0, 0)", x.feed(0, 0), Check.BEYOND);
        due("feed(0, 5)", x.feed(0, 5), Check.BEYOND);
        due("feed(0, -1)", x.feed(0, -1), Check.BEYOND);
        due("feed(0, MAX)", x.feed(0, Integer.MAX_VALUE), Check.BEYOND);
        says("FULL");
        for (int i = 1; i <= 29; i++) {
            x.feed(0, 4);
        }
        due("feed(0, 1) to 117", x.feed(0, 1), 117);
        due("feed(0, 4) to 121", x.feed(0, 4), Check.FULL);
        due("feed(0, 3) to 120", x.feed(0, 3), 120);
        due("feed(0, 1) to 121", x.feed(0, 1), Check.FULL);
        due("count(5)", x.count(5), 120);
    }

    private static void wipe() {
        promise = 34;
        says("THE TAPE is empty: how many it had");
        WhoBowsLast x = new WhoBowsLast();
        due("wipe() of none", x.wipe(), 0);
        for (int i = 0; i < 30; i++) {
            x.feed(0, 4);
        }
        due("wipe() of 120", x.wipe(), 120);
        due("count(5)", x.count(5), 0);
        due("wipe() again", x.wipe(), 0);
        due("feed(;, 1) behind it", x.feed(59, 1), 1);
        due("text() of it alone", x.text(), -1);
    }

    private static void text() {
        promise = 35;
        says("THE TAPE is a TEXT, and empty then; all that it tells is so, item by item: how many ITEMS");
        WhoBowsLast x = new WhoBowsLast();
        due("one item", Check.read(x, "bow love 99"), 1);
        due("count(5)", x.count(5), 0);
        due("of(0, 1)", x.of(0, 1), 99);
        due("item by item: 1 is there by then", Check.read(x, "child;contract 1 0;gain 1;gain 2"), 4);
        due("of(0, 3)", x.of(0, 3), 2);
        due("gain", x.rule(2, 0), 2);
        due("a contract that is there", Check.read(x, "contract 1 0"), 1);
        due("count(2)", x.count(2), 1);
        says("With a FAULT: -1 less the FAULT (nothing changes but that THE TAPE is empty; no finding)");
        x.image();
        String before = Check.seen(x);
        long had = x.status(-1);
        due("the first byte", Check.read(x, ";bow"), -1);
        due("no bytes", x.text(), -1);
        due("the last byte", Check.read(x, "gain 9;bow love 3;contract 0 1;x"), -32);
        due("behind the last byte", Check.read(x, "gain 9;bow;contract 0 1;bow love"), -33);
        due("of 120 bytes", Check.read(x, "gain 9;" + " ".repeat(113)), -121);
        due("count(5)", x.count(5), 0);
        due("no finding", x.status(-1), had);
        Check.dueText("nothing changes by a fault", Check.seen(x), before);
    }

    private static void hold() {
        promise = 36;
        says("A SPOT holds a BOW, or nothing (-1): 1");
        WhoBowsLast x = nine();
        due("hold(0, 8)", x.hold(0, 8), 1);
        due("hold(9, 0)", x.hold(9, 0), 1);
        due("as(0, 0)", x.as(0, 0), 8);
        due("as(9, 0)", x.as(9, 0), 0);
        due("hold(9, -1)", x.hold(9, -1), 1);
        due("hold(9, -1) of nothing", x.hold(9, -1), 1);
        due("count(7)", x.count(7), 1);
        says("BEYOND");
        due("hold(10, 0)", x.hold(10, 0), Check.BEYOND);
        due("hold(-1, 0)", x.hold(-1, 0), Check.BEYOND);
        due("hold(10, -1)", x.hold(10, -1), Check.BEYOND);
        due("hold(0, 9)", x.hold(0, 9), Check.BEYOND);
        due("hold(0, -2)", x.hold(0, -2), Check.BEYOND);
        due("hold(0, 0) of no bows", new WhoBowsLast().hold(0, 0), Check.BEYOND);
        due("hold(0, -1) of no bows", new WhoBowsLast().hold(0, -1), 1);
        due("as(0, 0) stays", x.as(0, 0), 8);
    }

    private static void as() {
        promise = 37;
        says("What a SPOT holds as one of a kind (0 to 6): the number of the BOW");
        WhoBowsLast x = Check.made("child;last");
        x.hold(0, 0);
        x.hold(9, 1);
        int[] asChild = {0, 5, 6};
        int[] asLast = {0, 2, 3, 4};
        for (int kind : asChild) {
            due("as(0, " + kind + ")", x.as(0, kind), 0);
        }
        for (int kind : asLast) {
            due("as(9, " + kind + ")", x.as(9, kind), 1);
        }
        says("BEYOND");
        due("as(10, 0)", x.as(10, 0), Check.BEYOND);
        due("as(-1, 0)", x.as(-1, 0), Check.BEYOND);
        due("as(0, 7)", x.as(0, 7), Check.BEYOND);
        due("as(0, -1)", x.as(0, -1), Check.BEYOND);
        says("MISSING: it holds nothing");
        due("as(5, 0)", x.as(5, 0), Check.MISSING);
        x.hold(9, -1);
        due("as(9, 0) let go", x.as(9, 0), Check.MISSING);
        says("KIND: it isn't of that kind, nor of one under it");
        x.hold(9, 1);
        due("as(9, 1)", x.as(9, 1), Check.KIND);
        due("as(9, 5)", x.as(9, 5), Check.KIND);
        due("as(9, 6)", x.as(9, 6), Check.KIND);
        due("as(0, 2)", x.as(0, 2), Check.KIND);
        x.change(0, 0, 5);
        due("as(0, 6): of the kind above alone", x.as(0, 6), Check.KIND);
        x.change(1, 0, 0);
        due("as(9, 2): of the kind above alone", x.as(9, 2), Check.KIND);
    }

    private static void sheet() {
        promise = 38;
        says("A sheet has n numbers, all 0, of 8, 16 or 32 bits; bits 0: it is MISSING: n (0 if it is MISSING)");
        WhoBowsLast x = Check.made("bow love 50");
        int[] widths = {8, 16, 32};
        for (int bits : widths) {
            due("sheet(3, " + bits + ", 0)", x.sheet(3, bits, 0), 0);
            due("load(3) of no numbers", x.load(3), 0);
            due("sheet(3, " + bits + ", 40)", x.sheet(3, bits, 40), 40);
            due("write(3, 39, 7)", x.write(3, 39, 7), 1);
            due("write(3, 0, 7)", x.write(3, 0, 7), 1);
            due("sheet(3, " + bits + ", 40) anew", x.sheet(3, bits, 40), 40);
            due("load(3)", x.load(3), 1);
            due("the first is 0 again", x.of(0, 1), 0);
            x.change(0, 1, 50);
            x.copy(3, 39, 3, 0, 1);
            x.load(3);
            due("the last is 0 again", x.of(0, 1), 0);
            due("sheet(3, 0, 40)", x.sheet(3, 0, 40), 0);
            due("load(3)", x.load(3), Check.MISSING);
        }
        due("sheet(3, 0, 0)", x.sheet(3, 0, 0), 0);
        x.sheet(0, 8, 3);
        says("BEYOND: no such sheet, other bits");
        due("sheet(4, 8, 3)", x.sheet(4, 8, 3), Check.BEYOND);
        due("sheet(-1, 8, 3)", x.sheet(-1, 8, 3), Check.BEYOND);
        int[] others = {-8, 1, 7, 9, 15, 17, 24, 31, 33, 64, Integer.MIN_VALUE, Integer.MAX_VALUE};
        for (int bits : others) {
            due("sheet(0, " + bits + ", 3)", x.sheet(0, bits, 3), Check.BEYOND);
        }
        says("SIZE: n is below 0 (also with bits 0)");
        due("sheet(0, 8, -1)", x.sheet(0, 8, -1), Check.SIZE);
        due("sheet(0, 32, MIN)", x.sheet(0, 32, Integer.MIN_VALUE), Check.SIZE);
        due("sheet(0, 0, -1)", x.sheet(0, 0, -1), Check.SIZE);
        says("BEYOND: n is above 40 (also with bits 0)");
        due("sheet(0, 8, 41)", x.sheet(0, 8, 41), Check.BEYOND);
        due("sheet(0, 8, MAX)", x.sheet(0, 8, Integer.MAX_VALUE), Check.BEYOND);
        due("sheet(0, 0, 41)", x.sheet(0, 0, 41), Check.BEYOND);
        due("its three numbers stay", x.write(0, 2, 0), 1);
        due("no more of them", x.write(0, 3, 0), Check.BEYOND);
    }

    private static void write() {
        promise = 39;
        says("Number i of a sheet becomes v (its lowest bits): 1");
        WhoBowsLast x = Check.made("bow;bow;bow");
        lay(x, 0, 8, 256 + 99, -256, 0x7fffff01);
        due("load(0)", x.load(0), 3);
        due("99", x.of(0, 1), 99);
        due("0", x.of(1, 1), 0);
        due("1", x.of(2, 1), 1);
        lay(x, 0, 16, 65536 + 98, Integer.MIN_VALUE, 256 + 3);
        due("load(0), of 16 bits", x.load(0), 2);
        due("98", x.of(0, 1), 98);
        lay(x, 0, 32, 97, 65536);
        due("load(0), of 32 bits", x.load(0), 1);
        due("write(0, 1, 5)", x.write(0, 1, 5), 1);
        due("load(0), with the last one", x.load(0), 2);
        says("BEYOND: no such sheet");
        due("write(4, 0, 1)", x.write(4, 0, 1), Check.BEYOND);
        due("write(-1, 0, 1)", x.write(-1, 0, 1), Check.BEYOND);
        says("MISSING");
        due("write(3, 0, 1)", x.write(3, 0, 1), Check.MISSING);
        says("BEYOND: no such number");
        due("write(0, 2, 1)", x.write(0, 2, 1), Check.BEYOND);
        due("write(0, -1, 1)", x.write(0, -1, 1), Check.BEYOND);
        x.sheet(1, 8, 0);
        due("write(1, 0, 1) of no numbers", x.write(1, 0, 1), Check.BEYOND);
    }

    private static void loves(WhoBowsLast x, int s, int... want) {
        due("load(" + s + ")", x.load(s), want.length);
        for (int b = 0; b < want.length; b++) {
            due("number " + b + " of sheet " + s, x.of(b, 1), want[b]);
        }
    }

    private static void copy() {
        promise = 40;
        says("n numbers of a sheet from one on come to another one from one on (as they all were): n");
        WhoBowsLast x = Check.made("bow;bow;bow;bow");
        lay(x, 0, 8, 11, 12, 13, 14);
        lay(x, 1, 8, 21, 22, 23);
        due("copy(0, 1, 1, 0, 3)", x.copy(0, 1, 1, 0, 3), 3);
        loves(x, 1, 12, 13, 14);
        loves(x, 0, 11, 12, 13, 14);
        due("copy(0, 0, 0, 1, 3) of itself", x.copy(0, 0, 0, 1, 3), 3);
        loves(x, 0, 11, 11, 12, 13);
        due("copy(0, 1, 0, 0, 3) of itself", x.copy(0, 1, 0, 0, 3), 3);
        loves(x, 0, 11, 12, 13, 13);
        due("copy(0, 0, 0, 0, 4) to where they are", x.copy(0, 0, 0, 0, 4), 4);
        due("copy(0, 4, 1, 3, 0) of none behind the last", x.copy(0, 4, 1, 3, 0), 0);
        due("copy(0, 3, 1, 2, 1) of the last one", x.copy(0, 3, 1, 2, 1), 1);
        loves(x, 1, 12, 13, 13);
        says("BEYOND: no such sheet (either)");
        int[] none = {4, -1};
        for (int s : none) {
            due("copy(" + s + ", 0, 1, 0, 1)", x.copy(s, 0, 1, 0, 1), Check.BEYOND);
            due("copy(0, 0, " + s + ", 0, 1)", x.copy(0, 0, s, 0, 1), Check.BEYOND);
        }
        says("MISSING: one is");
        due("copy(2, 0, 1, 0, 1)", x.copy(2, 0, 1, 0, 1), Check.MISSING);
        due("copy(0, 0, 3, 0, 1)", x.copy(0, 0, 3, 0, 1), Check.MISSING);
        due("copy(2, 0, 3, 0, 1): both are", x.copy(2, 0, 3, 0, 1), Check.MISSING);
        says("KIND: they are not of as many bits");
        x.sheet(2, 16, 4);
        x.sheet(3, 32, 4);
        due("copy(0, 0, 2, 0, 1)", x.copy(0, 0, 2, 0, 1), Check.KIND);
        due("copy(3, 0, 2, 0, 0)", x.copy(3, 0, 2, 0, 0), Check.KIND);
        copyTooMany(x);
    }

    private static void copyTooMany(WhoBowsLast x) {
        says("BEYOND: one has not so many, or from, to or n is below 0");
        int far = Integer.MAX_VALUE;
        int[][] wrong = {
            {0, 0, 0, 0, 5}, {0, 1, 0, 0, 4}, {0, 0, 0, 1, 4}, {0, 0, 1, 0, 4}, {1, 0, 0, 0, 4}, {0, 5, 1, 0, 0}, {0, 0, 1, 4, 0},
            {0, -1, 1, 0, 1}, {0, 0, 1, -1, 1}, {0, 0, 1, 0, -1}, {0, 4, 1, 3, -1}, {0, far, 1, 0, far}, {0, 0, 1, far, far},
            {0, far, 1, 0, 1}, {0, 1, 1, 0, far}, {0, 0, 1, 0, Integer.MIN_VALUE}, {0, Integer.MIN_VALUE, 1, 0, 1}
        };
        for (int[] w : wrong) {
            due("copy(" + w[0] + ", " + w[1] + ", " + w[2] + ", " + w[3] + ", " + w[4] + ")",
                x.copy(w[0], w[1], w[2], w[3], w[4]), Check.BEYOND);
        }
        loves(x, 0, 11, 12, 13, 13);
        loves(x, 1, 12, 13, 13);
    }

    private static void load() {
        promise = 41;
        says("Numbers of a sheet, from its begin on, become LOVES of BOWS 0, 1, ..: how many came");
        WhoBowsLast x = nine();
        lay(x, 0, 8, 0, 99, 1, 2, 3, 4, 5, 6, 98);
        loves(x, 0, 0, 99, 1, 2, 3, 4, 5, 6, 98);
        says("It ends at the first that isn't 0 to 99, or for which there is no BOW");
        lay(x, 0, 8, 7, 100, 8);
        loves(x, 0, 7);
        due("what isn't a love changes nothing", x.of(1, 1), 99);
        due("nor what stands behind it", x.of(2, 1), 1);
        lay(x, 0, 8, -1, 8);
        due("load(0) that begins below 0", x.load(0), 0);
        lay(x, 0, 8, 1, 1, 1, 1, 1, 1, 1, 1, 1, 1);
        due("load(0) of ten", x.load(0), 9);
        due("load(0) of no bows", empty(new WhoBowsLast()).load(0), 0);
        due("load(0) of no numbers", empty(nine()).load(0), 0);
        says("BEYOND: no such sheet");
        due("load(4)", x.load(4), Check.BEYOND);
        due("load(-1)", x.load(-1), Check.BEYOND);
        says("MISSING");
        due("load(1)", x.load(1), Check.MISSING);
        x.sheet(0, 0, 0);
        due("load(0) gone", x.load(0), Check.MISSING);
    }

    private static WhoBowsLast empty(WhoBowsLast x) {
        x.sheet(0, 8, x.count(1) == 0 ? 3 : 0);
        return x;
    }

    private static void judge() {
        promise = 42;
        says("THE READER: numbers of a sheet are an ORDER of some BOWS that haven't come, behind THE STAGE, that KEEPS "
            + "CONTRACTS: 0 if so; else 1 and the place of the first that CAN'T come then (or has, or is no BOW)");
        WhoBowsLast x = chain();
        lay(x, 0, 8, 8, 7, 6, 5, 4, 3, 2, 1, 0);
        due("all", x.judge(0), 0);
        lay(x, 0, 8, 8, 7);
        due("some", x.judge(0), 0);
        lay(x, 0, 8);
        due("none", x.judge(0), 0);
        lay(x, 0, 8, 7);
        due("the first CAN'T", x.judge(0), 1);
        lay(x, 0, 8, 8, 7, 6, 5, 4, 3, 2, 1, 1);
        due("the last came twice", x.judge(0), 9);
        lay(x, 0, 8, 8, 7, 6, 5, 4, 3, 2, 1, 0, 8);
        due("a 10th", x.judge(0), 10);
        lay(x, 0, 8, 9, 8);
        due("no bow 9", x.judge(0), 1);
        lay(x, 0, 8, 8, -1);
        due("no bow -1", x.judge(0), 2);
        lay(x, 0, 32, 8, 256 + 7);
        due("no bow 263", x.judge(0), 2);
        x.come(8);
        lay(x, 0, 8, 7, 6);
        due("behind the stage", x.judge(0), 0);
        lay(x, 0, 8, 7, 8);
        due("one has come", x.judge(0), 2);
        due("0 to 10 are no findings", x.status(-1), 0);
        lay(x, 0, 8, new int[40]);
        due("40 numbers", x.judge(0), 1);
        says("BEYOND: no such sheet");
        due("judge(4)", x.judge(4), Check.BEYOND);
        due("judge(-1)", x.judge(-1), Check.BEYOND);
        says("MISSING");
        due("judge(1)", x.judge(1), Check.MISSING);
    }

    private static void loud() {
        promise = 43;
        says("HEARD, if those came so");
        WhoBowsLast x = row();
        lay(x, 0, 8);
        due("none", x.loud(0), 0);
        lay(x, 0, 8, 0, 1, 2);
        due("all", x.loud(0), 87);
        x.come(0);
        lay(x, 0, 8, 1, 2);
        due("all behind the stage", x.loud(0), 87);
        lay(x, 0, 8);
        due("none behind the stage", x.loud(0), 40);
        due("HEARD stays", x.now(1), 40);
        says("BEYOND: no such sheet");
        due("loud(4)", x.loud(4), Check.BEYOND);
        due("loud(-1)", x.loud(-1), Check.BEYOND);
        says("MISSING");
        due("loud(1)", x.loud(1), Check.MISSING);
        says("STATE: they can't");
        lay(x, 0, 8, 2);
        due("one that CAN'T", x.loud(0), Check.STATE);
        lay(x, 0, 8, 1, 0);
        due("one that has come", x.loud(0), Check.STATE);
        lay(x, 0, 8, 1, 2, 3);
        due("no bow", x.loud(0), Check.STATE);
        lay(x, 0, 8, 1, 1);
        due("one twice", x.loud(0), Check.STATE);
    }

    /** Nine bows, all unlike, on a full stage, in all spots. */
    private static WhoBowsLast full() {
        WhoBowsLast x = Check.made("train 999;tires 9;silent 8;gain 7;loss 6");
        for (int b = 0; b < 9; b++) {
            x.bow((b + 5) % 7);
            x.change(b, 1, 90 + b);
            x.change(b, 2, 50 + b);
            x.hold(b, b);
        }
        x.hold(9, 8);
        x.contract(8, 7, 1);
        x.change(8, 3, 127);
        allCome(x);
        x.come(7);
        return x;
    }

    private static void image() {
        promise = 44;
        says("All but THE TAPE and SHEETS is kept: 1");
        WhoBowsLast x = full();
        String before = Check.seen(x);
        due("image() of a full object", x.image(), 1);
        for (int b = 0; b < 9; b++) {
            x.change(b, 0, b % 7);
            x.change(b, 1, b);
            x.change(b, 2, 1 + b);
            x.change(b, 3, 0);
            x.hold(b + 1, 0);
        }
        Check.read(x, "train 1;tires 1;silent 1;gain 1;loss 1");
        x.clear();
        for (int b = 8; b >= 0; b--) {
            x.come(b);
        }
        x.feed(0, 3);
        x.sheet(2, 8, 40);
        due("undo()", x.undo(), 9);
        due("bytes of the tape stay", x.wipe(), 3);
        due("numbers of a sheet stay", x.write(2, 39, 0), 1);
        Check.dueText("a full object comes back", Check.seen(x), before);
        // HEARD and CLOCK go back by what each brought, the last one first.
        for (int b = 8; b >= 0; b--) {
            x.back();
        }
        due("HEARD behind nine that went back", x.now(1), 0);
        due("CLOCK behind nine that went back", x.now(2), 0);
        WhoBowsLast y = new WhoBowsLast();
        due("image() of no bows", y.image(), 1);
        y.bow(0);
        due("undo() to no bows", y.undo(), 0);
        due("count(1)", y.count(1), 0);
    }

    private static void undo() {
        promise = 45;
        says("It becomes what was kept latest (which stays): how many have come");
        WhoBowsLast x = nine();
        x.image();
        x.come(8);
        x.image();
        x.come(0);
        due("undo() to the latest", x.undo(), 1);
        x.clear();
        due("undo() again", x.undo(), 1);
        due("stood(0)", x.stood(0), 8);
        allCome(x);
        x.image();
        x.clear();
        due("undo() to a full stage", x.undo(), 9);
        says("NONE: nothing is kept");
        due("undo() of a new one", new WhoBowsLast().undo(), Check.NONE);
        x.tear();
        due("undo() of a torn one", x.undo(), Check.NONE);
        due("all stays", x.count(0), 9);
    }

    private static void tear() {
        promise = 46;
        says("Nothing is kept: 1 if something was, else 0");
        WhoBowsLast x = new WhoBowsLast();
        due("tear() of none", x.tear(), 0);
        x.image();
        x.image();
        due("tear() of some", x.tear(), 1);
        due("tear() again", x.tear(), 0);
        due("no finding", x.status(-1), 0);
        due("undo()", x.undo(), Check.NONE);
    }

    private static void count() {
        promise = 47;
        says("0 how many have come, 1 BOWS, 2 CONTRACTS, 3 HEARD, 4 LOVES of all together, 5 bytes of THE TAPE, 6 z, "
            + "7 SPOTS that hold something");
        WhoBowsLast x = full();
        for (int i = 0; i < 30; i++) {
            x.feed(0, 4);
        }
        x.back();
        x.seed(-1);
        x.change(0, 3, 510);
        long heard = x.now(1);
        long[] due = {8, 9, 8 + 1 + 7, heard, 846, 120, -1, 10};
        for (int what = 0; what < 8; what++) {
            due("count(" + what + ") of a full object", x.count(what), due[what]);
        }
        WhoBowsLast y = nine();
        for (int b = 0; b < 9; b++) {
            y.change(b, 3, 511 - (1 << b));
        }
        due("count(2), each ahead of each", y.count(2), 72);
        says("BEYOND: another what");
        due("count(8)", x.count(8), Check.BEYOND);
        due("count(-1)", x.count(-1), Check.BEYOND);
    }

    private static void status() {
        promise = 48;
        says("How many acts answered a finding ever (undo() takes none back): which -1: all, 0 to 6: BEYOND to SIZE");
        WhoBowsLast x = new WhoBowsLast();
        for (int which = -1; which <= 6; which++) {
            due("status(" + which + ") at first", x.status(which), 0);
        }
        x.image();
        for (int i = 0; i < 400; i++) {
            x.back();
        }
        x.sheet(0, 8, -1);
        x.curtain(9, 0);
        x.undo();
        due("status(3)", x.status(3), 400);
        due("status(6)", x.status(6), 1);
        due("status(0)", x.status(0), 1);
        due("status(-1)", x.status(-1), 402);
        says("BEYOND (counted from then on): another one");
        due("status(7)", x.status(7), Check.BEYOND);
        due("status(0)", x.status(0), 2);
        due("status(-2)", x.status(-2), Check.BEYOND);
        due("status(-1)", x.status(-1), 404);
    }
}
