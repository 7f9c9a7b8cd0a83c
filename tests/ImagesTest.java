/** Promises 44 to 48: images, counts. */
public final class ImagesTest {
    public static void main(String[] args) {
        promises44And45();
        keptApart();
        promise46();
        promise47();
        promise48();
        Check.end();
    }

    private static WhoBowsLast cast() {
        WhoBowsLast x = Check.made("bow love 40;rising love 30 seconds 9;falling love 25 ahead 1;train 77;tires 3");
        x.hold(4, 2);
        x.seed(99);
        x.come(1);
        x.come(0);
        return x;
    }

    private static void changeAll(WhoBowsLast x) {
        x.bow(6);
        x.change(0, 0, 4);
        x.change(1, 1, 99);
        x.change(2, 2, 60);
        x.change(1, 3, 4);
        x.contract(0, 2, 0);
        for (int what = 0; what < 5; what++) {
            x.rule(what, 7);
        }
        x.clear();
        x.come(3);
        x.come(2);
        x.hold(4, -1);
        x.hold(0, 3);
        x.seed(-3);
    }

    private static void promises44And45() {
        WhoBowsLast x = cast();
        Check.due("undo() of none", x.undo(), Check.NONE);
        String before = Check.seen(x);
        Check.due("image()", x.image(), 1);
        Check.dueText("image changes nothing", Check.seen(x), before);
        changeAll(x);
        Check.due("undo()", x.undo(), 2);
        Check.dueText("undo takes all back", Check.seen(x), before);
        Check.due("back() behind it", x.back(), 0);
        Check.due("HEARD behind it", x.now(1), 30);
        Check.due("CLOCK behind it", x.now(2), 9);
        changeAll(x);
        Check.due("undo() again", x.undo(), 2);
        Check.dueText("what is kept stays", Check.seen(x), before);
    }

    private static void keptApart() {
        WhoBowsLast x = cast();
        x.image();
        x.clear();
        x.image();
        x.come(0);
        Check.due("undo() to the latest", x.undo(), 0);
        // The tape and the sheets are no part of it.
        x.sheet(0, 8, 2);
        x.write(0, 0, 1);
        Check.put(x, "gain 5");
        Check.due("undo()", x.undo(), 0);
        Check.due("the sheet stays", x.judge(0), 0);
        Check.due("the tape stays", x.count(5), 6);
        x.image();
        x.wipe();
        x.sheet(0, 0, 0);
        Check.due("undo()", x.undo(), 0);
        Check.due("the sheet stays away", x.judge(0), Check.MISSING);
        Check.due("the tape stays empty", x.count(5), 0);
        long had = x.status(-1);
        x.bow(9);
        x.undo();
        Check.due("findings stay", x.status(-1), had + 1);
        x.bow(0);
        x.hold(1, 3);
        x.undo();
        Check.due("no such bow any more", x.of(3, 0), Check.BEYOND);
        Check.due("nor held", x.as(1, 0), Check.MISSING);
        Check.due("a new one is as new", x.bow(2), 3);
        Check.due("its love", x.of(3, 1), 10);
        Check.due("its ahead", x.of(3, 3), 0);
    }

    private static void promise46() {
        WhoBowsLast x = cast();
        Check.due("tear() of none", x.tear(), 0);
        x.image();
        x.image();
        Check.due("tear()", x.tear(), 1);
        Check.due("tear() again", x.tear(), 0);
        Check.due("undo() of none", x.undo(), Check.NONE);
        Check.due("all stays", x.count(0), 2);
        x.image();
        Check.due("undo()", x.undo(), 2);
        Check.due("tear()", x.tear(), 1);
    }

    private static void promise47() {
        WhoBowsLast x = cast();
        x.contract(1, 0, 1);
        Check.put(x, "bow");
        x.hold(9, 2);
        long[] due = {2, 3, 2, 70, 95, 3, 99, 2};
        for (int what = 0; what < 8; what++) {
            Check.due("count(" + what + ")", x.count(what), due[what]);
        }
        Check.due("count(-1)", x.count(-1), Check.BEYOND);
        Check.due("count(8)", x.count(8), Check.BEYOND);
        Check.due("count(MIN)", x.count(Integer.MIN_VALUE), Check.BEYOND);
        Check.due("count(MAX)", x.count(Integer.MAX_VALUE), Check.BEYOND);
        Check.due("BEYOND counted", x.status(0), 4);
        x.seed(-1000004);
        Check.due("count(6) of any z", x.count(6), -1000004);
        Check.due("is no finding", x.status(-1), 4);
    }

    private static void promise48() {
        WhoBowsLast x = Check.made("bow");
        for (int which = -1; which < 7; which++) {
            Check.due("status(" + which + ")", x.status(which), 0);
        }
        x.bow(7);
        x.come(0);
        x.come(0);
        x.come(0);
        x.come(3);
        x.stood(4);
        x.as(0, 0);
        x.judge(0);
        x.judge(1);
        x.hold(0, 0);
        x.as(0, 1);
        x.sheet(0, 8, -1);
        for (int i = 0; i < 31; i++) {
            x.feed(0, 4);
        }
        x.text();
        long[] due = {2, 1, 1, 1, 2, 3, 1};
        for (int which = 0; which < 7; which++) {
            Check.due("status(" + which + ")", x.status(which), due[which]);
        }
        Check.due("status(-1)", x.status(-1), 11);
        Check.due("status(7)", x.status(7), Check.BEYOND);
        Check.due("counted from then on", x.status(0), 3);
        Check.due("status(-2)", x.status(-2), Check.BEYOND);
        Check.due("status(MIN)", x.status(Integer.MIN_VALUE), Check.BEYOND);
        Check.due("status(MAX)", x.status(Integer.MAX_VALUE), Check.BEYOND);
        Check.due("status(0)", x.status(0), 6);
        Check.due("status(-1)", x.status(-1), 14 + 1);
    }
}
