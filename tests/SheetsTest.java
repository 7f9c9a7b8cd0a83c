/** Promises 36 to 43: spots, sheets. */
public final class SheetsTest {
    private static final int[] FAR = {Integer.MIN_VALUE, -1, 1000, Integer.MAX_VALUE};

    public static void main(String[] args) {
        promise36();
        promise37();
        promise38();
        promise39();
        promise40();
        promise41();
        promise42();
        promise43();
        Check.end();
    }

    /** Sheet 0 of 8 bits with some numbers. */
    private static void lay(WhoBowsLast x, int s, int... numbers) {
        x.sheet(s, 8, numbers.length);
        for (int i = 0; i < numbers.length; i++) {
            x.write(s, i, numbers[i]);
        }
    }

    private static void promise36() {
        WhoBowsLast x = Check.made("bow;bow");
        Check.due("hold(0, 1)", x.hold(0, 1), 1);
        Check.due("hold(9, 0)", x.hold(9, 0), 1);
        Check.due("count(7)", x.count(7), 2);
        Check.due("as(0, 0)", x.as(0, 0), 1);
        Check.due("as(9, 0)", x.as(9, 0), 0);
        Check.due("hold(0, 0)", x.hold(0, 0), 1);
        Check.due("as(0, 0)", x.as(0, 0), 0);
        Check.due("hold(0, -1)", x.hold(0, -1), 1);
        Check.due("hold(0, -1) again", x.hold(0, -1), 1);
        Check.due("as(0, 0)", x.as(0, 0), Check.MISSING);
        Check.due("count(7)", x.count(7), 1);
        String before = Check.seen(x);
        Check.due("hold(-1, 0)", x.hold(-1, 0), Check.BEYOND);
        Check.due("hold(10, 0)", x.hold(10, 0), Check.BEYOND);
        Check.due("hold(10, -1)", x.hold(10, -1), Check.BEYOND);
        Check.due("hold(9, 2)", x.hold(9, 2), Check.BEYOND);
        Check.due("hold(9, -2)", x.hold(9, -2), Check.BEYOND);
        for (int v : FAR) {
            Check.due("hold(" + v + ", 0)", x.hold(v, 0), Check.BEYOND);
            Check.due("hold(9, " + v + ")", x.hold(9, v), v == -1 ? 1 : Check.BEYOND);
            x.hold(9, 0);
        }
        Check.dueText("a wrong hold changes nothing", Check.seen(x), before);
    }

    private static void promise37() {
        WhoBowsLast x = Check.made("bow;rowed;rising;falling;last;shielded;child");
        // By the kind of the bow: the kinds that it is or stands under, as a set.
        int[] above = {1, 3, 5, 13, 29, 33, 97};
        for (int b = 0; b < 7; b++) {
            x.hold(b, b);
            for (int kind = 0; kind < 7; kind++) {
                Check.due("as(" + b + ", " + kind + ")", x.as(b, kind), (above[b] >> kind & 1) == 1 ? b : Check.KIND);
            }
        }
        x.change(0, 0, 4);
        Check.due("as(0, 3) of another kind now", x.as(0, 3), 0);
        Check.due("as(7, 0)", x.as(7, 0), Check.MISSING);
        Check.due("as(7, 7)", x.as(7, 7), Check.BEYOND);
        for (int v : FAR) {
            Check.due("as(" + v + ", 0)", x.as(v, 0), Check.BEYOND);
            Check.due("as(0, " + v + ")", x.as(0, v), Check.BEYOND);
        }
        Check.due("as(10, 0)", x.as(10, 0), Check.BEYOND);
        Check.due("as(0, 7)", x.as(0, 7), Check.BEYOND);
        Check.due("KIND counted", x.status(2), 49 - 1 - 2 - 2 - 3 - 4 - 2 - 3);
        Check.due("MISSING counted", x.status(5), 1);
    }

    private static void promise38() {
        WhoBowsLast x = Check.made("bow");
        int[] widths = {8, 16, 32};
        for (int bits : widths) {
            Check.due("sheet(0, " + bits + ", 40)", x.sheet(0, bits, 40), 40);
            Check.due("write(0, 39, 1)", x.write(0, 39, 1), 1);
            Check.due("write(0, 40, 1)", x.write(0, 40, 1), Check.BEYOND);
            Check.due("sheet(0, " + bits + ", 0)", x.sheet(0, bits, 0), 0);
            Check.due("judge(0) of an empty sheet", x.judge(0), 0);
        }
        Check.due("sheet(3, 8, 2)", x.sheet(3, 8, 2), 2);
        x.write(3, 0, 77);
        Check.due("sheet(3, 8, 2) anew", x.sheet(3, 8, 2), 2);
        Check.due("load(3): all 0 again", x.load(3), 1);
        Check.due("of(0, 1)", x.of(0, 1), 0);
        Check.due("sheet(3, 0, 7)", x.sheet(3, 0, 7), 0);
        Check.due("judge(3)", x.judge(3), Check.MISSING);
        Check.due("sheet(3, 0, 0) again", x.sheet(3, 0, 0), 0);
        x.sheet(2, 16, 5);
        x.write(2, 4, 5);
        int[] bits = {-8, 1, 7, 9, 24, 31, 33, 64, Integer.MIN_VALUE, Integer.MAX_VALUE};
        for (int b : bits) {
            Check.due("sheet(2, " + b + ", 3)", x.sheet(2, b, 3), Check.BEYOND);
        }
        Check.due("sheet(4, 8, 3)", x.sheet(4, 8, 3), Check.BEYOND);
        Check.due("sheet(-1, 8, 3)", x.sheet(-1, 8, 3), Check.BEYOND);
        Check.due("sheet(MIN, 8, 3)", x.sheet(Integer.MIN_VALUE, 8, 3), Check.BEYOND);
        Check.due("sheet(MAX, 8, 3)", x.sheet(Integer.MAX_VALUE, 8, 3), Check.BEYOND);
        Check.due("sheet(2, 8, -1)", x.sheet(2, 8, -1), Check.SIZE);
        Check.due("sheet(2, 0, -1)", x.sheet(2, 0, -1), Check.SIZE);
        Check.due("sheet(2, 8, MIN)", x.sheet(2, 8, Integer.MIN_VALUE), Check.SIZE);
        Check.due("sheet(2, 8, 41)", x.sheet(2, 8, 41), Check.BEYOND);
        Check.due("sheet(2, 0, 41)", x.sheet(2, 0, 41), Check.BEYOND);
        Check.due("sheet(2, 8, MAX)", x.sheet(2, 8, Integer.MAX_VALUE), Check.BEYOND);
        Check.due("BEYOND is asked ahead of SIZE", x.sheet(4, 8, -1), Check.BEYOND);
        Check.due("BEYOND is asked ahead of SIZE", x.sheet(2, 7, -1), Check.BEYOND);
        Check.due("SIZE counted", x.status(6), 3);
        Check.due("what was there stays", x.write(2, 4, 5), 1);
        Check.due("of 16 bits", x.copy(2, 0, 2, 0, 5), 5);
    }

    /** The numbers of a sheet are told by load() alone: 0 to 99 as a love, others end it. */
    private static void told(String call, int bits, int v, int love) {
        WhoBowsLast x = Check.made("bow love 50");
        x.sheet(1, bits, 1);
        Check.due("write of " + call, x.write(1, 0, v), 1);
        Check.due("load of " + call, x.load(1), love < 0 ? 0 : 1);
        Check.due("love by " + call, x.of(0, 1), love < 0 ? 50 : love);
    }

    private static void promise39() {
        told("8 bits 99", 8, 99, 99);
        told("8 bits 127", 8, 127, -1);
        told("8 bits 255 is -1", 8, 255, -1);
        told("8 bits 256 is 0", 8, 256, 0);
        told("8 bits 355 is 99", 8, 355, 99);
        told("8 bits -253 is 3", 8, -253, 3);
        told("16 bits 256", 16, 256, -1);
        told("16 bits 65535 is -1", 16, 65535, -1);
        told("16 bits 65540 is 4", 16, 65540, 4);
        told("32 bits 65540", 32, 65540, -1);
        told("32 bits MIN", 32, Integer.MIN_VALUE, -1);
        told("16 bits MIN is 0", 16, Integer.MIN_VALUE, 0);
        told("32 bits 98", 32, 98, 98);
        WhoBowsLast x = Check.made("bow love 50");
        x.sheet(0, 8, 3);
        x.sheet(1, 8, 3);
        Check.due("write(0, 2, 1)", x.write(0, 2, 1), 1);
        Check.due("write(0, 3, 1)", x.write(0, 3, 1), Check.BEYOND);
        for (int v : FAR) {
            Check.due("write(0, " + v + ", 1)", x.write(0, v, 1), Check.BEYOND);
            Check.due("write(" + v + ", 0, 1)", x.write(v, 0, 1), Check.BEYOND);
        }
        Check.due("write(4, 0, 1)", x.write(4, 0, 1), Check.BEYOND);
        Check.due("write(2, 0, 1)", x.write(2, 0, 1), Check.MISSING);
        Check.due("MISSING is asked ahead of the number", x.write(2, -1, 1), Check.MISSING);
        Check.due("the sheet is asked ahead of MISSING", x.write(4, -1, 1), Check.BEYOND);
        Check.due("judge(0): 0, then 0 again", x.judge(0), 2);
        Check.due("judge(1): 0, then 0 again", x.judge(1), 2);
        Check.due("MISSING counted", x.status(5), 2);
    }

    private static void loves(WhoBowsLast x, int s, int... due) {
        Check.due("load(" + s + ")", x.load(s), due.length);
        for (int b = 0; b < due.length; b++) {
            Check.due("of(" + b + ", 1)", x.of(b, 1), due[b]);
        }
    }

    private static void promise40() {
        WhoBowsLast x = Check.made("bow;bow;bow;bow;bow");
        lay(x, 0, 10, 20, 30, 40, 50);
        lay(x, 1, 1, 2, 3, 4, 5);
        Check.due("copy(0, 1, 1, 2, 3)", x.copy(0, 1, 1, 2, 3), 3);
        loves(x, 1, 1, 2, 20, 30, 40);
        loves(x, 0, 10, 20, 30, 40, 50);
        Check.due("copy(0, 0, 0, 1, 4) onto itself", x.copy(0, 0, 0, 1, 4), 4);
        loves(x, 0, 10, 10, 20, 30, 40);
        Check.due("copy(0, 1, 0, 0, 4) onto itself", x.copy(0, 1, 0, 0, 4), 4);
        loves(x, 0, 10, 20, 30, 40, 40);
        Check.due("copy(0, 5, 1, 5, 0)", x.copy(0, 5, 1, 5, 0), 0);
        Check.due("copy(0, 0, 1, 0, 0)", x.copy(0, 0, 1, 0, 0), 0);
        int[][] wrong = {
            {0, 0, 1, 0, 6}, {0, 1, 1, 0, 5}, {0, 0, 1, 1, 5}, {0, 6, 1, 0, 0}, {0, 0, 1, 6, 0}, {0, -1, 1, 0, 2},
            {0, 0, 1, -1, 2}, {0, 0, 1, 0, -1}, {-1, 0, 1, 0, 1}, {0, 0, 4, 0, 1}, {4, 0, 1, 0, 1}, {0, 0, -1, 0, 1},
            {0, Integer.MAX_VALUE, 1, 0, 1}, {0, 1, 1, 0, Integer.MAX_VALUE}, {0, 0, 1, Integer.MAX_VALUE, 1},
            {0, Integer.MAX_VALUE, 1, 0, Integer.MAX_VALUE}, {0, 0, 1, 0, Integer.MIN_VALUE},
            {0, Integer.MIN_VALUE, 1, 0, 1}, {0, 0, 1, Integer.MIN_VALUE, 1}
        };
        for (int[] w : wrong) {
            Check.due("copy(" + w[0] + ", " + w[1] + ", " + w[2] + ", " + w[3] + ", " + w[4] + ")",
                x.copy(w[0], w[1], w[2], w[3], w[4]), Check.BEYOND);
        }
        Check.due("copy(0, 0, 2, 0, 1)", x.copy(0, 0, 2, 0, 1), Check.MISSING);
        Check.due("copy(2, 0, 0, 0, 1)", x.copy(2, 0, 0, 0, 1), Check.MISSING);
        Check.due("no such sheet is asked ahead of MISSING", x.copy(2, 0, 4, 0, 1), Check.BEYOND);
        x.sheet(3, 16, 5);
        Check.due("copy(0, 0, 3, 0, 1)", x.copy(0, 0, 3, 0, 1), Check.KIND);
        Check.due("MISSING is asked ahead of KIND", x.copy(2, 0, 3, 0, 1), Check.MISSING);
        Check.due("KIND is asked ahead of the numbers", x.copy(0, 0, 3, 0, -1), Check.KIND);
        loves(x, 0, 10, 20, 30, 40, 40);
        loves(x, 1, 1, 2, 20, 30, 40);
        x.sheet(2, 16, 5);
        x.write(2, 0, 300);
        x.write(2, 1, 44);
        Check.due("copy(2, 0, 3, 3, 2) of 16 bits", x.copy(2, 0, 3, 3, 2), 2);
        loves(x, 3, 0, 0, 0);
        Check.due("copy(3, 4, 3, 3, 1)", x.copy(3, 4, 3, 3, 1), 1);
        loves(x, 3, 0, 0, 0, 44, 44);
    }

    private static void promise41() {
        WhoBowsLast x = Check.made("bow;bow;bow");
        lay(x, 0, 0, 99, 100, 4);
        Check.due("load(0) to a 100", x.load(0), 2);
        lay(x, 1, 7, -1, 8);
        Check.due("load(1) to a -1", x.load(1), 1);
        Check.due("of(0, 1)", x.of(0, 1), 7);
        Check.due("of(1, 1)", x.of(1, 1), 99);
        Check.due("of(2, 1)", x.of(2, 1), 10);
        lay(x, 2, 1, 2, 3, 4);
        Check.due("load(2) to the last bow", x.load(2), 3);
        Check.due("count(4)", x.count(4), 6);
        lay(x, 2);
        Check.due("load(2) of an empty sheet", x.load(2), 0);
        x.come(1);
        lay(x, 2, 50, 60);
        Check.due("load(2), whoever has come", x.load(2), 2);
        Check.due("HEARD as it was", x.now(1), 2);
        Check.due("load(3)", x.load(3), Check.MISSING);
        for (int v : FAR) {
            Check.due("load(" + v + ")", x.load(v), Check.BEYOND);
        }
        Check.due("load(4)", x.load(4), Check.BEYOND);
        WhoBowsLast none = new WhoBowsLast();
        none.sheet(0, 8, 3);
        Check.due("load(0) of no bows", none.load(0), 0);
    }

    private static void promise42() {
        WhoBowsLast x = Check.made("bow;bow ahead 1;bow ahead 2;bow");
        lay(x, 0, 0, 1, 2, 3);
        Check.due("judge(0)", x.judge(0), 0);
        lay(x, 0, 3, 0);
        Check.due("judge(0) of some", x.judge(0), 0);
        lay(x, 0, 3, 1, 0);
        Check.due("judge(0): 1 ahead of 0", x.judge(0), 2);
        lay(x, 0, 0, 1, 0);
        Check.due("judge(0): 0 twice", x.judge(0), 3);
        lay(x, 0, 4, 0);
        Check.due("judge(0): no bow", x.judge(0), 1);
        lay(x, 0, 0, -1);
        Check.due("judge(0): no bow", x.judge(0), 2);
        lay(x, 0, 0, 40);
        Check.due("judge(0): no bow", x.judge(0), 2);
        lay(x, 0);
        Check.due("judge(0) of none", x.judge(0), 0);
        x.come(0);
        lay(x, 0, 1, 2, 3);
        Check.due("judge(0) behind 0", x.judge(0), 0);
        lay(x, 0, 3, 0);
        Check.due("judge(0): has come", x.judge(0), 2);
        Check.due("nobody came", x.now(3), 1);
        Check.due("no finding", x.status(-1), 0);
        x.sheet(1, 32, 1);
        x.write(1, 0, Integer.MIN_VALUE);
        Check.due("judge(1) of MIN", x.judge(1), 1);
        x.write(1, 0, Integer.MAX_VALUE);
        Check.due("judge(1) of MAX", x.judge(1), 1);
        Check.due("judge(3)", x.judge(3), Check.MISSING);
        for (int v : FAR) {
            Check.due("judge(" + v + ")", x.judge(v), Check.BEYOND);
        }
        Check.due("judge(4)", x.judge(4), Check.BEYOND);
    }

    private static void promise43() {
        WhoBowsLast x = Check.made("bow love 40;rising love 30;falling love 20 ahead 1");
        lay(x, 0, 0, 1, 2);
        Check.due("loud(0): 40 + 34 + 13", x.loud(0), 87);
        lay(x, 0, 2);
        Check.due("loud(0) of one that can't", x.loud(0), Check.STATE);
        x.come(0);
        Check.due("loud(0) behind 0: 40 + 20 + 4 - 20", x.loud(0), 44);
        x.change(0, 1, 5);
        Check.due("loud(0): HEARD as it was, 0 as it is", x.loud(0), 60);
        lay(x, 0);
        Check.due("loud(0) of none", x.loud(0), 40);
        lay(x, 0, 1, 0);
        Check.due("loud(0) of one that has come", x.loud(0), Check.STATE);
        lay(x, 0, 7);
        Check.due("loud(0) of no bow", x.loud(0), Check.STATE);
        Check.due("HEARD stays", x.now(1), 40);
        Check.due("who has come stays", x.now(3), 1);
        Check.due("loud(2)", x.loud(2), Check.MISSING);
        for (int v : FAR) {
            Check.due("loud(" + v + ")", x.loud(v), Check.BEYOND);
        }
        Check.due("loud(4)", x.loud(4), Check.BEYOND);
        Check.due("STATE counted", x.status(4), 3);
        Check.due("BEYOND counted", x.status(0), 5);
    }
}
