import java.util.TreeSet;

/**
 * "One that answers a finding changes nothing but status()": each call that is refused, for each of its
 * reasons, on an object with something of everything; then all that can be seen of it is looked at.
 */
public final class RefusedTest {
    private static final long BEYOND = Check.BEYOND;
    private static final int FAR = Integer.MAX_VALUE;
    private static final int LOW = Integer.MIN_VALUE;

    /** A call on an object. */
    private interface Act {
        long on(WhoBowsLast x);
    }

    /** How an object is made. */
    private interface Maker {
        WhoBowsLast make();
    }

    private static Maker maker;
    private static String untouched;
    private static final TreeSet<Long> TOLD = new TreeSet<>();

    public static void main(String[] args) {
        use(RefusedTest::rich);
        bows();
        stageAndOrders();
        helps();
        curtainsAndTexts();
        spotsAndSheets();
        copies();
        imagesAndCounts();
        use(RefusedTest::ringed);
        withoutWays();
        use(RefusedTest::small);
        ofLittle();
        Check.due("all seven findings", TOLD.size(), 7);
        Check.end();
    }

    private static void use(Maker how) {
        maker = how;
        untouched = whole(how.make());
    }

    /** Nine bows, three of them on the stage, an image of another time, and a nearly full tape. */
    private static WhoBowsLast rich() {
        WhoBowsLast x = Check.made("bow love 40 seconds 7;rowed love 30;rising love 50 ahead 1;falling love 20;train 77");
        x.come(1);
        x.hold(1, 1);
        x.image();
        for (int b = 4; b < 9; b++) {
            x.bow(b % 7);
        }
        x.contract(5, 6, 1);
        x.clear();
        x.come(0);
        x.come(2);
        x.come(8);
        x.hold(8, 8);
        x.seed(99);
        for (int what = 0; what < 4; what++) {
            x.rule(what, 7);
        }
        lay(x, 0, 8, 1, 3, 4);
        lay(x, 1, 16, 6, 5);
        lay(x, 2, 32, 3, 4, 7, 5, 6);
        Check.put(x, "gain 12;loss 13;contract 3 4" + " ".repeat(80) + ";train 9  ");
        return x;
    }

    /** The same, but 5 and 6 need each other. */
    private static WhoBowsLast ringed() {
        WhoBowsLast x = rich();
        x.contract(6, 5, 1);
        x.contract(3, 4, 1);
        x.contract(4, 3, 1);
        return x;
    }

    /** Two bows that haven't come, and no image. */
    private static WhoBowsLast small() {
        return Check.made("bow;rising");
    }

    private static void lay(WhoBowsLast x, int s, int bits, int... numbers) {
        x.sheet(s, bits, numbers.length);
        for (int i = 0; i < numbers.length; i++) {
            x.write(s, i, numbers[i]);
        }
    }

    /** All that can be seen; asks about 350 calls, and leaves the object another one. */
    private static String whole(WhoBowsLast x) {
        StringBuilder told = new StringBuilder(Check.seen(x));
        for (int s = 0; s < 4; s++) {
            told.append("sheet ").append(x.judge(s)).append(' ').append(x.loud(s));
            for (int n = 1; n <= 6; n++) {
                told.append(' ').append(x.copy(s, 0, s, 0, n));
            }
            told.append(' ').append(x.load(s)).append(':');
            for (int b = 0; b < x.count(1); b++) {
                told.append(' ').append(x.of(b, 1));
            }
        }
        told.append("tape ").append(x.text()).append(Check.seen(x));
        told.append("kept ").append(x.undo()).append(Check.seen(x)).append(x.tear());
        return told.toString();
    }

    private static void refused(String call, long finding, Act act) {
        WhoBowsLast x = maker.make();
        int which = (int) (BEYOND - finding);
        long had = x.status(which);
        long all = x.status(-1);
        Check.due(call, act.on(x), finding);
        Check.due(call + " is counted", x.status(which), had + 1);
        Check.due(call + " is counted once", x.status(-1), all + 1);
        Check.dueText(call + " changes nothing: all that is seen", whole(x), untouched);
        TOLD.add(finding);
    }

    /** A call with one int in it, told as #. */
    private interface ActBy {
        long on(WhoBowsLast x, int v);
    }

    private static void beyond(String call, ActBy act, int... values) {
        for (int v : values) {
            refused(call.replace("#", "" + v), BEYOND, x -> act.on(x, v));
        }
    }

    private static void bows() {
        beyond("bow(#)", (x, v) -> x.bow(v), -1, 7, LOW, FAR);
        refused("bow(0)", Check.FULL, x -> x.bow(0));
        beyond("of(#, 1)", (x, v) -> x.of(v, 1), -1, 9, LOW, FAR);
        beyond("of(0, #)", (x, v) -> x.of(0, v), -1, 7, LOW, FAR);
        beyond("change(#, 1, 3)", (x, v) -> x.change(v, 1, 3), -1, 9, LOW, FAR);
        beyond("change(0, #, 3)", (x, v) -> x.change(0, v, 3), -1, 4, LOW, FAR);
        beyond("change(0, 0, #)", (x, v) -> x.change(0, 0, v), -1, 7, LOW, FAR);
        beyond("change(0, 1, #)", (x, v) -> x.change(0, 1, v), -1, 100, LOW, FAR);
        beyond("change(0, 2, #)", (x, v) -> x.change(0, 2, v), -1, 0, 61, LOW, FAR);
        beyond("change(0, 3, #)", (x, v) -> x.change(0, 3, v), -1, -2, 1, 511, 512, LOW, FAR);
        beyond("contract(#, 1, 1)", (x, v) -> x.contract(v, 1, 1), -1, 1, 9, LOW, FAR);
        beyond("contract(1, #, 1)", (x, v) -> x.contract(1, v, 1), -1, 1, 9, LOW, FAR);
        beyond("contract(1, 4, #)", (x, v) -> x.contract(1, 4, v), -1, 2, LOW, FAR);
        beyond("rule(#, 3)", (x, v) -> x.rule(v, 3), -1, 5, LOW, FAR);
        beyond("rule(0, #)", (x, v) -> x.rule(0, v), -1, 10, LOW, FAR);
        beyond("rule(1, #)", (x, v) -> x.rule(1, v), -1, 11, LOW, FAR);
        beyond("rule(2, #)", (x, v) -> x.rule(2, v), -1, 100, LOW, FAR);
        beyond("rule(3, #)", (x, v) -> x.rule(3, v), -1, 100, LOW, FAR);
        beyond("rule(4, #)", (x, v) -> x.rule(4, v), -1, 1000, LOW, FAR);
        beyond("noise(#, 5)", (x, v) -> x.noise(v, 5), -1, 9, LOW, FAR);
        beyond("noise(0, #)", (x, v) -> x.noise(0, v), -1, 1000, LOW, FAR);
    }

    private static void stageAndOrders() {
        beyond("come(#)", (x, v) -> x.come(v), -1, 9, LOW, FAR);
        refused("come(8), the latest", Check.STATE, x -> x.come(8));
        refused("come(0), the first", Check.STATE, x -> x.come(0));
        refused("come(6), who CAN'T", Check.STATE, x -> x.come(6));
        beyond("stood(#)", (x, v) -> x.stood(v), -1, LOW);
        refused("stood(3)", Check.NONE, x -> x.stood(3));
        refused("stood(MAX)", Check.NONE, x -> x.stood(FAR));
        beyond("now(#)", (x, v) -> x.now(v), -1, 6, LOW, FAR);
        beyond("best(#)", (x, v) -> x.best(v), -1, 2, LOW, FAR);
        beyond("ith(#, 0)", (x, v) -> x.ith(v, 0), -1, 2, LOW, FAR);
        beyond("ith(1, #)", (x, v) -> x.ith(1, v), -1, LOW);
        refused("ith(0, 6)", Check.NONE, x -> x.ith(0, 6));
        refused("ith(1, MAX)", Check.NONE, x -> x.ith(1, FAR));
        beyond("place(#, 0)", (x, v) -> x.place(v, 0), -1, 9, LOW, FAR);
        beyond("place(3, #)", (x, v) -> x.place(3, v), -1, 2, LOW, FAR);
        refused("place(8, 0)", Check.STATE, x -> x.place(8, 0));
        beyond("all(#)", (x, v) -> x.all(v), -1, 9, LOW, FAR);
    }

    private static void helps() {
        beyond("between(#, 1)", (x, v) -> x.between(v, 1), -1, 1, 9, LOW, FAR);
        beyond("between(1, #)", (x, v) -> x.between(1, v), -1, 1, 9, LOW, FAR);
        beyond("kindFor(#)", (x, v) -> x.kindFor(v), -1, 9, LOW, FAR);
        beyond("fits(#, 0, 0)", (x, v) -> x.fits(v, 0, 0), -1, 9, LOW, FAR);
        beyond("fits(0, #, 0)", (x, v) -> x.fits(0, v, 0), -1, 1000, LOW, FAR);
        beyond("love(#, 0, 0)", (x, v) -> x.love(v, 0, 0), -1, 9, LOW, FAR);
        beyond("love(0, #, 0)", (x, v) -> x.love(0, v, 0), -1, 1000, LOW, FAR);
        refused("love(0, 0, 100)", Check.NONE, x -> x.love(0, 0, 100));
        refused("love(0, 0, MIN)", Check.NONE, x -> x.love(0, 0, LOW));
    }

    private static void curtainsAndTexts() {
        beyond("curtain(#, 0)", (x, v) -> x.curtain(v, 0), -1, 9, LOW, FAR);
        beyond("curtain(0, #)", (x, v) -> x.curtain(0, v), -1, 2, LOW, FAR);
        beyond("evening(#)", (x, v) -> x.evening(v), -1, 0, 9, LOW, FAR);
        beyond("feed(59, #)", (x, v) -> x.feed(59, v), -1, 0, 5, LOW, FAR);
        refused("feed(59, 3) to 121", Check.FULL, x -> x.feed(59, 3));
        refused("feed(59, 4) to 122", Check.FULL, x -> x.feed(59, 4));
    }

    private static void spotsAndSheets() {
        beyond("hold(#, 3)", (x, v) -> x.hold(v, 3), -1, 10, LOW, FAR);
        beyond("hold(#, -1)", (x, v) -> x.hold(v, -1), -1, 10, LOW, FAR);
        beyond("hold(8, #)", (x, v) -> x.hold(8, v), -2, 9, LOW, FAR);
        beyond("as(#, 0)", (x, v) -> x.as(v, 0), -1, 10, LOW, FAR);
        beyond("as(1, #)", (x, v) -> x.as(1, v), -1, 7, LOW, FAR);
        refused("as(2, 0)", Check.MISSING, x -> x.as(2, 0));
        refused("as(1, 2)", Check.KIND, x -> x.as(1, 2));
        beyond("sheet(#, 8, 3)", (x, v) -> x.sheet(v, 8, 3), -1, 4, LOW, FAR);
        beyond("sheet(0, #, 3)", (x, v) -> x.sheet(0, v, 3), -1, 1, 7, 9, 24, 64, LOW, FAR);
        beyond("sheet(0, 8, #)", (x, v) -> x.sheet(0, 8, v), 41, FAR);
        beyond("sheet(0, 0, #)", (x, v) -> x.sheet(0, 0, v), 41, FAR);
        refused("sheet(0, 8, -1)", Check.SIZE, x -> x.sheet(0, 8, -1));
        refused("sheet(0, 0, -1)", Check.SIZE, x -> x.sheet(0, 0, -1));
        refused("sheet(0, 0, MIN)", Check.SIZE, x -> x.sheet(0, 0, LOW));
        beyond("write(#, 0, 2)", (x, v) -> x.write(v, 0, 2), -1, 4, LOW, FAR);
        beyond("write(0, #, 2)", (x, v) -> x.write(0, v, 2), -1, 3, LOW, FAR);
        refused("write(3, 0, 2)", Check.MISSING, x -> x.write(3, 0, 2));
        beyond("load(#)", (x, v) -> x.load(v), -1, 4, LOW, FAR);
        refused("load(3)", Check.MISSING, x -> x.load(3));
        beyond("judge(#)", (x, v) -> x.judge(v), -1, 4, LOW, FAR);
        refused("judge(3)", Check.MISSING, x -> x.judge(3));
        beyond("loud(#)", (x, v) -> x.loud(v), -1, 4, LOW, FAR);
        refused("loud(3)", Check.MISSING, x -> x.loud(3));
        refused("loud(1)", Check.STATE, x -> x.loud(1));
    }

    private static void copies() {
        beyond("copy(#, 0, 0, 0, 1)", (x, v) -> x.copy(v, 0, 0, 0, 1), -1, 4, LOW, FAR);
        beyond("copy(0, 0, #, 0, 1)", (x, v) -> x.copy(0, 0, v, 0, 1), -1, 4, LOW, FAR);
        refused("copy(3, 0, 0, 0, 1)", Check.MISSING, x -> x.copy(3, 0, 0, 0, 1));
        refused("copy(0, 0, 3, 0, 1)", Check.MISSING, x -> x.copy(0, 0, 3, 0, 1));
        refused("copy(0, 0, 1, 0, 1)", Check.KIND, x -> x.copy(0, 0, 1, 0, 1));
        beyond("copy(0, #, 0, 0, 1)", (x, v) -> x.copy(0, v, 0, 0, 1), -1, 3, LOW, FAR);
        beyond("copy(0, 0, 0, #, 1)", (x, v) -> x.copy(0, 0, 0, v, 1), -1, 3, LOW, FAR);
        beyond("copy(0, 0, 0, 1, #)", (x, v) -> x.copy(0, 0, 0, 1, v), -1, 3, LOW, FAR);
    }

    private static void imagesAndCounts() {
        beyond("count(#)", (x, v) -> x.count(v), -1, 8, LOW, FAR);
        beyond("status(#)", (x, v) -> x.status(v), -2, 7, LOW, FAR);
    }

    private static void withoutWays() {
        refused("best(0) without a way", Check.NONE, x -> x.best(0));
        refused("best(1) without a way", Check.NONE, x -> x.best(1));
        refused("ith(0, 0) without a way", Check.NONE, x -> x.ith(0, 0));
        refused("place(7, 0) without a way", Check.NONE, x -> x.place(7, 0));
        refused("kindFor(7) without a way", Check.NONE, x -> x.kindFor(7));
        refused("freed() by two rings", Check.NONE, x -> x.freed());
        refused("free() by two rings", Check.NONE, x -> x.free());
        refused("train() without a way", Check.NONE, x -> x.train());
    }

    private static void ofLittle() {
        refused("back() of none", Check.NONE, x -> x.back());
        refused("between(0, 1) of two", Check.NONE, x -> x.between(0, 1));
        refused("freed() of no contracts", Check.NONE, x -> x.freed());
        refused("free() of no contracts", Check.NONE, x -> x.free());
        refused("undo() of none kept", Check.NONE, x -> x.undo());
    }
}
