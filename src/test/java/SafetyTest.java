import java.util.NoSuchElementException;

/** No call throws by itself, whatever comes: only rests throws, and only NoSuchElementException. */
public final class SafetyTest {
    private static final int[] EDGES = {Integer.MIN_VALUE, -1000000, -33, -32, -2, -1, 0, 1, 2, 3, 4, 5, 6, 7, 9, 10, 24,
        25, 31, 32, 33, 99, 100, 9999, 10000, 1000000, Integer.MAX_VALUE};

    private final StrangeWinding x = new StrangeWinding();
    private final Drawn drawn;

    private SafetyTest(int seed) {
        drawn = new Drawn(seed);
    }

    public static void main(String[] args) {
        int thrown = 0;
        for (int seed = 1000; seed < 1600; seed++) {
            SafetyTest run = new SafetyTest(seed);
            int last = -1;
            try {
                for (int i = 0; i < 512; i++) {
                    last = run.call(i);
                }
            } catch (RuntimeException e) {
                thrown++;
                System.out.println("seed " + seed + " behind call kind " + last + " threw " + e);
            }
        }
        Check.due("thrown", thrown, 0);
        longestLaw();
        deepestLaw();
        Check.end();
    }

    private int wild() {
        return drawn.below(3) == 0 ? drawn.near(0, 5) : EDGES[drawn.below(EDGES.length)];
    }

    private int call(int i) {
        if (i % 64 == 1) {
            Check.feed(x, drawn.land());
            x.land();
        }
        int kind = drawn.below(29);
        int a = wild();
        int b = wild();
        int c = wild();
        switch (kind) {
            case 0 -> x.feed(drawn.row(), drawn.row(), drawn.row());
            case 1 -> x.land();
            case 2 -> x.week();
            case 3 -> x.person(a, b);
            case 4 -> x.wound(a, b);
            case 5 -> x.lanes(a);
            case 6 -> x.gives(a, b);
            case 7 -> x.walk(a, b);
            case 8 -> x.wind(a, b);
            case 9 -> x.mend(a);
            case 10 -> x.hour();
            case 11 -> x.undo();
            case 12 -> x.judged(a);
            case 13 -> x.stops(a);
            case 14 -> x.august();
            case 15 -> x.plan(a, b, c);
            case 16 -> x.stand(a);
            case 17 -> x.fewest(a, b);
            case 18 -> x.tale(a, b);
            case 19 -> x.sets(a, b);
            case 20 -> x.ask(a);
            case 21 -> x.meet(a, b, c);
            case 22 -> x.engaged();
            case 23 -> x.pairs(a);
            case 24 -> x.tinkers();
            case 25 -> offer(a, b, c);
            case 26 -> x.years(a, b, c);
            case 27 -> x.mark(a, b < 0);
            default -> x.count(a);
        }
        return kind;
    }

    private void offer(int a, int b, int c) {
        try {
            x.rests(a, b, c, wild());
        } catch (NoSuchElementException e) {
            Check.due("a stake that is wrong, or none such", 1, 1);
        }
    }

    private static void longestLaw() {
        String head = "street a;person p plain at a left 9;person q plain at a left 9;winds 1";
        String law = "+1".repeat((1000 - head.length() - 1) / 2);
        StrangeWinding x = Check.told(head + law + ";");
        Check.due("a long sum", x.gives(0, 1), 40);
        StrangeWinding y = Check.told("street a;person p plain at a left 9;person q plain at a left 9;winds 9"
                + "-1".repeat(4) + "*1".repeat(400) + ";");
        Check.due("a long product", y.gives(0, 1), 5);
    }

    private static void deepestLaw() {
        String open = "1 and 0<1+1*(";
        StrangeWinding x = Check.told("street a;person p plain at a left 9;person q plain at a left 9;winds 7*("
                + open.repeat(3) + "1 and 0<1+1*1" + "))))" + ";");
        Check.due("all that may wait", x.gives(0, 1), 7);
    }
}
