/** Promises 33 to 35: texts. */
public final class TextsTest {
    public static void main(String[] args) {
        promise33();
        promise34();
        promise35();
        itemsOfBows();
        itemsOfContracts();
        itemsOfRules();
        tokens();
        tooManyBows();
        faultChangesNothing();
        Check.end();
    }

    private static void promise33() {
        WhoBowsLast x = new WhoBowsLast();
        Check.due("feed(0, 0)", x.feed(0, 0), Check.BEYOND);
        Check.due("feed(0, 5)", x.feed(0, 5), Check.BEYOND);
        Check.due("feed(0, -1)", x.feed(0, -1), Check.BEYOND);
        Check.due("feed(0, MIN)", x.feed(0, Integer.MIN_VALUE), Check.BEYOND);
        Check.due("feed(0, MAX)", x.feed(0, Integer.MAX_VALUE), Check.BEYOND);
        Check.due("feed(b, 1)", x.feed(0x78787862, 1), 1);
        Check.due("feed(ow, 2)", x.feed(0x78786f77, 2), 3);
        Check.due("feed( lo, 3)", x.feed(0x78206c6f, 3), 6);
        Check.due("feed(ve 7, 4)", x.feed(0x76652037, 4), 10);
        Check.due("count(5)", x.count(5), 10);
        Check.due("text()", x.text(), 1);
        Check.due("of(0, 1)", x.of(0, 1), 7);
        for (int i = 1; i <= 29; i++) {
            Check.due("feed(-1, 4)", x.feed(-1, 4), 4 * i);
        }
        Check.due("feed(-1, 3) to 119", x.feed(-1, 3), 119);
        Check.due("feed(-1, 2) beyond 120", x.feed(-1, 2), Check.FULL);
        Check.due("feed(-1, 0) of a full tape", x.feed(-1, 0), Check.BEYOND);
        Check.due("count(5)", x.count(5), 119);
        Check.due("feed(-1, 1) to 120", x.feed(-1, 1), 120);
        Check.due("feed(-1, 1) beyond 120", x.feed(-1, 1), Check.FULL);
        Check.due("count(5)", x.count(5), 120);
        Check.due("FULL counted", x.status(1), 2);
        Check.due("BEYOND counted", x.status(0), 6);
        Check.due("wipe()", x.wipe(), 120);
        Check.due("feed(59, 1)", x.feed(59, 1), 1);
    }

    private static void promise34() {
        WhoBowsLast x = new WhoBowsLast();
        Check.due("wipe() of none", x.wipe(), 0);
        Check.put(x, "bow love");
        Check.due("wipe()", x.wipe(), 8);
        Check.due("count(5)", x.count(5), 0);
        Check.due("wipe() again", x.wipe(), 0);
        Check.due("text() of none", x.text(), -1);
        Check.due("no finding", x.status(-1), 0);
    }

    private static void fault(String text, int place) {
        WhoBowsLast x = new WhoBowsLast();
        Check.due("text of [" + text + "]", Check.read(x, text), -1 - place);
        Check.due("its tape", x.count(5), 0);
        Check.due("its bows", x.count(1), 0);
        Check.due("its findings", x.status(-1), 0);
    }

    private static void fine(String text, int items) {
        WhoBowsLast x = new WhoBowsLast();
        Check.due("text of [" + text + "]", Check.read(x, text), items);
        Check.due("its tape", x.count(5), 0);
        Check.due("its findings", x.status(-1), 0);
    }

    private static void promise35() {
        WhoBowsLast x = new WhoBowsLast();
        Check.due("all sorts of items", Check.read(x,
            "bow love 40;rowed love 22 seconds 9;rising;falling seconds 3 ahead 5;last ahead 1;shielded;child love 0"), 7);
        long[][] due = {{0, 40, 5, 0}, {1, 22, 9, 0}, {2, 10, 5, 0}, {3, 10, 3, 5}, {4, 10, 5, 1}, {5, 10, 5, 0}, {6, 0, 5, 0}};
        for (int b = 0; b < due.length; b++) {
            for (int what = 0; what < 4; what++) {
                Check.due("of(" + b + ", " + what + ")", x.of(b, what), due[b][what]);
            }
        }
        x.come(0);
        Check.due("a text behind a text", Check.read(x, "contract 0 4;contract 6 4;tires 2;bow ahead 127;contract 7 0"), 5);
        Check.due("of(4, 3): 0 was there", x.of(4, 3), 65);
        Check.due("of(7, 3)", x.of(7, 3), 127);
        Check.due("of(0, 3)", x.of(0, 3), 128);
        Check.due("count(2)", x.count(2), 2 + 2 + 7 + 1);
        Check.due("who has come stays", x.now(3), 1);
        Check.due("tires", x.rule(0, 0), 2);
        Check.due("a rule twice: the later one", Check.read(x, "gain 1;gain 2"), 2);
        Check.due("gain", x.rule(2, 0), 2);
    }

    private static void itemsOfBows() {
        fine("bow", 1);
        fine("bow love 0 seconds 1 ahead 0", 1);
        fine("bow love 99 seconds 60", 1);
        fine("bow love 5 ahead 0", 1);
        fine("bow;bow ahead 1;bow ahead 3;bow ahead 7", 4);
        fault("bow love 100", 9);
        fault("bow love", 8);
        fault("bow love ", 9);
        fault("bow love;", 8);
        fault("bow love seconds 3", 9);
        fault("bow seconds 0", 12);
        fault("bow seconds 61", 12);
        fault("bow seconds 3 love 3", 14);
        fault("bow ahead 0 love 3", 12);
        fault("bow ahead 0 seconds 3", 12);
        fault("bow love 3 love 3", 11);
        fault("bow ahead 1", 10);
        fault("bow;bow ahead 2", 14);
        fault("bow;bow ahead 4", 14);
        fault("bow 3", 4);
        fault("bow bow", 4);
        fault("love 3", 0);
        fault("seconds 3", 0);
        fault("ahead 0", 0);
    }

    private static void itemsOfContracts() {
        fine("bow;bow;contract 0 1;contract 1 0;contract 0 1", 5);
        fault("contract 0 1", 9);
        fault("bow;contract 0 0", 15);
        fault("bow;contract 0 1", 15);
        fault("bow;bow;contract 0 2", 19);
        fault("bow;bow;contract 2 0", 17);
        fault("bow;bow;contract 1 1", 19);
        fault("bow;bow;contract 0", 18);
        fault("bow;bow;contract 0;", 18);
        fault("bow;bow;contract", 16);
        fault("bow;bow;contract 0 1 1", 21);
        fault("bow;bow;contract bow", 17);
    }

    private static void itemsOfRules() {
        String[] names = {"tires", "silent", "gain", "loss", "train"};
        int[] most = {9, 10, 99, 99, 999};
        int[] first = {1, 1, 20, 30, 60};
        for (int r = 0; r < 5; r++) {
            WhoBowsLast x = new WhoBowsLast();
            Check.due("text of " + names[r] + " most", Check.read(x, names[r] + " " + most[r]), 1);
            for (int what = 0; what < 5; what++) {
                Check.due("rule " + what, x.rule(what, 0), what == r ? most[r] : first[what]);
            }
            fine(names[r] + " 0", 1);
            fault(names[r] + " " + (most[r] + 1), names[r].length() + 1);
            fault(names[r] + " ;", names[r].length() + 1);
            fault(names[r], names[r].length());
            fault(names[r] + " 3 3", names[r].length() + 3);
        }
    }

    private static void tokens() {
        fine("bow love5seconds6", 1);
        fine("  bow  love   5 ;  bow;tires 3  ", 3);
        fine("train 007", 1);
        fine("train 00000000000000000000000000999", 1);
        fault("train 1000", 6);
        fault("train 4294967296", 6);
        fault("train 99999999999999999999999999999", 6);
        fault("bow love 050 5", 13);
        fault("", 0);
        fault("   ", 3);
        fault(";", 0);
        fault("bow;", 4);
        fault("bow; ", 5);
        fault("bow;;bow", 4);
        fault("bowl", 0);
        fault("bo", 0);
        fault("bows", 0);
        fault("cow", 0);
        fault("boz", 0);
        fault("bowz", 0);
        fault("bowa", 0);
        fault("bowlove 5", 0);
        fault("Bow", 0);
        fault("bow Love 5", 4);
        fault("bow\tlove 5", 3);
        fault("bow,", 3);
        fault("bow love -5", 9);
        fault("bow\u0000", 3);
        fault("bow" + (char) 160, 3);
        fault("bow" + (char) 226, 3);
        fault("3", 0);
        fault("bow love +", 9);
        fault("bow`", 3);
        fault("bow{", 3);
        fault("tires 3/", 7);
        fault("tires 3:", 7);
        String longest = "bow;train " + "0".repeat(109) + "9";
        fine(longest, 2);
        fault("bow" + " ".repeat(116) + "x", 119);
        fault("bow;" + " ".repeat(116), 120);
    }

    private static void tooManyBows() {
        fine("bow;bow;bow;bow;bow;bow;bow;bow;bow", 9);
        fault("bow;bow;bow;bow;bow;bow;bow;bow;bow; child love 300", 37);
        WhoBowsLast x = new WhoBowsLast();
        for (int b = 0; b < 8; b++) {
            x.bow(0);
        }
        Check.due("the 9th", Check.read(x, "bow ahead 255"), 1);
        Check.due("of(8, 3)", x.of(8, 3), 255);
        Check.due("the 10th", Check.read(x, "gain 3;last"), -8);
        Check.due("contracts of the 9th", Check.read(x, "contract 8 0"), 1);
        Check.due("of(0, 3)", x.of(0, 3), 256);
        Check.due("contracts of a 10th", Check.read(x, "contract 0 9"), -12);
    }

    private static void faultChangesNothing() {
        WhoBowsLast x = Check.made("bow love 40;falling love 20 ahead 1;train 77");
        x.come(0);
        x.hold(3, 1);
        String before = Check.seen(x);
        Check.due("a fault at the end", Check.read(x, "bow love 3;contract 1 0;gain 5;train 3;silent 3;bow;bow ahead 8;x"), -65);
        Check.dueText("a fault changes nothing", Check.seen(x), before);
        Check.due("a text behind it", Check.read(x, "bow love 3"), 1);
        Check.due("of(2, 1)", x.of(2, 1), 3);
        Check.due("of(2, 3)", x.of(2, 3), 0);
    }
}
