/** Promises 8 to 12: the stage. */
public final class StageTest {
    public static void main(String[] args) {
        promise8();
        promise9();
        promise10();
        promise11();
        promise12();
        contractsMadeLater();
        nineBows();
        Check.end();
    }

    /** 0 before 2; 3 and 4 need each other, so neither can ever come. */
    private static WhoBowsLast cast() {
        WhoBowsLast x = Check.made("bow love 40 seconds 7;rising love 30 seconds 9;falling love 25 seconds 3 ahead 1;bow;bow ahead 8");
        x.contract(4, 3, 1);
        return x;
    }

    private static void promise8() {
        WhoBowsLast x = cast();
        String before = Check.seen(x);
        Check.due("come(2): 0 hasn't come", x.come(2), Check.STATE);
        Check.due("come(3): by a ring", x.come(3), Check.STATE);
        Check.due("come(5)", x.come(5), Check.BEYOND);
        Check.due("come(-1)", x.come(-1), Check.BEYOND);
        Check.due("come(MIN)", x.come(Integer.MIN_VALUE), Check.BEYOND);
        Check.due("come(MAX)", x.come(Integer.MAX_VALUE), Check.BEYOND);
        Check.dueText("what can't come changes nothing", Check.seen(x), before);
        Check.due("come(0)", x.come(0), 40);
        Check.due("come(0) again", x.come(0), Check.STATE);
        Check.due("come(1): 30 + 4", x.come(1), 34);
        Check.due("come(2): 25 + 3 - 5", x.come(2), 23);
        Check.due("HEARD", x.now(1), 97);
        Check.due("CLOCK: 7 + 9 + 4", x.now(2), 20);
        Check.due("STATE counted", x.status(4), 3);
        Check.due("BEYOND counted", x.status(0), 4);
    }

    private static void promise9() {
        WhoBowsLast x = cast();
        Check.due("back() of none", x.back(), Check.NONE);
        x.come(1);
        x.come(0);
        x.come(2);
        Check.due("HEARD: 30 + 40 + 14", x.now(1), 84);
        // What HEARD and CLOCK lose is what they got, though the bow is another one by now.
        x.change(2, 0, 4);
        x.change(2, 1, 99);
        x.change(2, 2, 60);
        x.change(0, 1, 90);
        Check.due("back()", x.back(), 2);
        Check.due("HEARD", x.now(1), 70);
        Check.due("CLOCK", x.now(2), 16);
        Check.due("who has come", x.now(3), 3);
        Check.due("back()", x.back(), 0);
        Check.due("HEARD", x.now(1), 30);
        Check.due("back()", x.back(), 1);
        Check.due("HEARD", x.now(1), 0);
        Check.due("CLOCK", x.now(2), 0);
        Check.due("back() of none", x.back(), Check.NONE);
        Check.due("NONE counted", x.status(3), 2);
        Check.due("come(2) by 0 gone back", x.come(2), Check.STATE);
    }

    private static void promise10() {
        WhoBowsLast x = cast();
        Check.due("clear() of none", x.clear(), 0);
        x.come(0);
        x.come(2);
        Check.due("clear()", x.clear(), 2);
        for (int what = 0; what < 6; what++) {
            Check.due("now(" + what + ") behind clear", x.now(what), what == 4 ? 3 : 0);
        }
        Check.due("clear() again", x.clear(), 0);
        Check.due("bows stay", x.count(1), 5);
        Check.due("come(2)", x.come(2), Check.STATE);
        Check.due("come(0)", x.come(0), 40);
        Check.due("clear() is no finding", x.status(-1), 1);
    }

    private static void promise11() {
        WhoBowsLast x = cast();
        Check.due("stood(0) of none", x.stood(0), Check.NONE);
        x.come(1);
        x.come(0);
        Check.due("stood(0)", x.stood(0), 1);
        Check.due("stood(1)", x.stood(1), 0);
        Check.due("stood(2)", x.stood(2), Check.NONE);
        Check.due("stood(9)", x.stood(9), Check.NONE);
        Check.due("stood(MAX)", x.stood(Integer.MAX_VALUE), Check.NONE);
        Check.due("stood(-1)", x.stood(-1), Check.BEYOND);
        Check.due("stood(MIN)", x.stood(Integer.MIN_VALUE), Check.BEYOND);
        x.back();
        Check.due("stood(1) gone back", x.stood(1), Check.NONE);
    }

    private static void promise12() {
        WhoBowsLast x = cast();
        long[] none = {0, 0, 0, 0, 3, 0};
        for (int what = 0; what < 6; what++) {
            Check.due("now(" + what + ") of none", x.now(what), none[what]);
        }
        x.come(0);
        x.come(1);
        // 1 behind 40 with love 30: a fall.
        long[] two = {2, 74, 16, 3, 4, 1};
        for (int what = 0; what < 6; what++) {
            Check.due("now(" + what + ") of two", x.now(what), two[what]);
        }
        x.change(1, 1, 40);
        Check.due("as much as its love is no fall", x.now(5), 0);
        x.change(1, 1, 39);
        Check.due("FALLS of bows as they are", x.now(5), 1);
        x.change(0, 0, 5);
        Check.due("FALLS by what is left as it is", x.now(5), 0);
        Check.due("now(-1)", x.now(-1), Check.BEYOND);
        Check.due("now(6)", x.now(6), Check.BEYOND);
        Check.due("now(MIN)", x.now(Integer.MIN_VALUE), Check.BEYOND);
        Check.due("now(MAX)", x.now(Integer.MAX_VALUE), Check.BEYOND);
        Check.due("BEYOND counted", x.status(0), 4);
    }

    private static void nineBows() {
        WhoBowsLast x = new WhoBowsLast();
        for (int b = 0; b < 9; b++) {
            x.bow(0);
            x.change(b, 1, 90 - 10 * b);
        }
        Check.due("now(4) of nine", x.now(4), 511);
        Check.due("lot() of nine", x.lot(), 9);
        x.clear();
        for (int b = 0; b < 9; b++) {
            Check.due("come(" + b + ")", x.come(b), 90 - 10 * b);
        }
        long[] due = {9, 450, 45, 511, 0, 8};
        for (int what = 0; what < 6; what++) {
            Check.due("now(" + what + ") of nine", x.now(what), due[what]);
        }
        Check.due("count(2)", x.count(2), 0);
        Check.due("count(4)", x.count(4), 450);
        Check.due("stood(8)", x.stood(8), 8);
        Check.due("clear()", x.clear(), 9);
    }

    private static void contractsMadeLater() {
        WhoBowsLast x = Check.made("bow;bow;bow");
        x.come(0);
        Check.due("contract(1, 0, 1) with 0 there", x.contract(1, 0, 1), 1);
        Check.due("who has come stays", x.now(3), 1);
        Check.due("who can come", x.now(4), 6);
        Check.due("back()", x.back(), 0);
        Check.due("who can come then", x.now(4), 6);
        Check.due("come(0)", x.come(0), Check.STATE);
    }
}
