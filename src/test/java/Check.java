import java.util.NoSuchElementException;

/** What the tests share: telling texts to an object, and counting the answers that are not due. */
final class Check {
    static final int THROWS = Integer.MIN_VALUE;

    private static int wrong = 0;
    private static int asked = 0;

    private Check() {
    }

    static void due(String call, long got, long want) {
        asked++;
        if (got != want) {
            wrong++;
            if (wrong <= 50) {
                System.out.println(call + " answered " + got + ", due is " + want);
            }
        }
    }

    static void due(String call, boolean got, boolean want) {
        due(call, got ? 1 : 0, want ? 1 : 0);
    }

    static void alike(String call, String got, String want) {
        due(call + " is " + got + ", and not " + want, got.equals(want), true);
    }

    static boolean isWrong() {
        return wrong != 0;
    }

    /** Puts a text on the TAPE, 24 signs a call. */
    static int feed(StrangeWinding x, String text) {
        int on = x.count(12);
        for (int i = 0; i < text.length(); i += 24) {
            on = x.feed(bytes(text, i), bytes(text, i + 8), bytes(text, i + 16));
        }
        return on;
    }

    static long bytes(String text, int from) {
        long row = 0;
        for (int i = from; i < from + 8; i++) {
            row = row << 8 | (i < text.length() ? text.charAt(i) : 0);
        }
        return row;
    }

    static int land(StrangeWinding x, String text) {
        feed(x, text);
        return x.land();
    }

    static int week(StrangeWinding x, String text) {
        feed(x, text);
        return x.week();
    }

    static StrangeWinding told(String text) {
        StrangeWinding x = new StrangeWinding();
        due("land " + text, land(x, text), 0);
        return x;
    }

    static int rests(StrangeWinding x, int both, int loses, int gets, int what) {
        try {
            return x.rests(both, loses, gets, what);
        } catch (NoSuchElementException e) {
            return THROWS;
        }
    }

    static void end() {
        System.out.println(asked + " answers, " + wrong + " not as due");
        if (wrong != 0) {
            System.exit(1);
        }
    }
}
