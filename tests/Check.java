/** Counts wrong answers of a test, and puts texts on a tape. */
final class Check {
    static final long BEYOND = -1000001;
    static final long FULL = -1000002;
    static final long KIND = -1000003;
    static final long NONE = -1000004;
    static final long STATE = -1000005;
    static final long MISSING = -1000006;
    static final long SIZE = -1000007;

    private static int asked = 0;
    private static int wrong = 0;

    private Check() {
    }

    static void due(String call, long got, long want) {
        asked++;
        if (got != want) {
            wrong++;
            System.out.println(call + " answered " + got + ", due is " + want);
        }
    }

    static void dueText(String call, String got, String want) {
        asked++;
        if (!got.equals(want)) {
            wrong++;
            System.out.println(call + " told " + got + ", due is " + want);
        }
    }

    static void end() {
        System.out.println(asked + " answers looked at, " + wrong + " not as due");
        if (wrong != 0 || asked == 0) {
            System.exit(1);
        }
    }

    /** Puts the bytes of a text (each 0 to 255) on the tape, as many to a call as go. */
    static void put(WhoBowsLast x, String text) {
        for (int i = 0; i < text.length(); i += 4) {
            int n = Math.min(4, text.length() - i);
            int bytes = 0;
            for (int k = 0; k < n; k++) {
                bytes = bytes << 8 | text.charAt(i + k);
            }
            x.feed(bytes, n);
        }
    }

    static int read(WhoBowsLast x, String text) {
        put(x, text);
        return x.text();
    }

    /** An object with what a text tells. */
    static WhoBowsLast made(String text) {
        WhoBowsLast x = new WhoBowsLast();
        int answer = read(x, text);
        if (answer < 0) {
            wrong++;
            System.out.println("the text " + text + " has a fault: " + answer);
        }
        return x;
    }

    /** All that can be seen of an object's state but for status() and what is kept; asks some 90 calls. */
    static String seen(WhoBowsLast x) {
        StringBuilder told = new StringBuilder();
        for (int what = 0; what <= 7; what++) {
            told.append(x.count(what)).append(' ');
        }
        for (int b = 0; b < x.count(1); b++) {
            told.append('|');
            for (int what = 0; what <= 3; what++) {
                told.append(x.of(b, what)).append(' ');
            }
        }
        told.append("stage ");
        for (int i = 0; i < x.count(0); i++) {
            told.append(x.stood(i)).append(' ');
        }
        told.append(x.now(1)).append(' ').append(x.now(2)).append(" rules ");
        for (int what = 0; what <= 4; what++) {
            int was = x.rule(what, 0);
            x.rule(what, was);
            told.append(was).append(' ');
        }
        told.append("spots ");
        for (int spot = 0; spot <= 9; spot++) {
            told.append(x.as(spot, 0)).append(' ');
        }
        return told.toString();
    }
}
