/** All promises: drawn runs of up to 512 calls, each answer against that of the Model. */
public final class ModelTest {
    private static final int RUNS = 400;

    private final StrangeWinding x = new StrangeWinding();
    private final Model y = new Model();
    private final Drawn drawn;
    private final String name;
    private int calls;

    private ModelTest(int seed) {
        drawn = new Drawn(seed);
        name = "run " + seed + ", call ";
    }

    public static void main(String[] args) {
        for (int seed = 0; seed < RUNS && !Check.isWrong(); seed++) {
            ModelTest run = new ModelTest(seed);
            if (seed % 8 == 7) {
                run.readMuch();
            } else {
                run.live();
            }
        }
        Check.end();
    }

    private void due(String call, int got, int want) {
        calls++;
        Check.due(name + calls + ": " + call, got, want);
    }

    private void due(String call, boolean got, boolean want) {
        due(call, got ? 1 : 0, want ? 1 : 0);
    }

    private void feed(String text) {
        for (int i = 0; i < text.length(); i += 24) {
            long a = Check.bytes(text, i);
            long b = Check.bytes(text, i + 8);
            long c = Check.bytes(text, i + 16);
            due("feed", x.feed(a, b, c), y.feed(a, b, c));
        }
    }

    private void land(String text) {
        feed(text);
        due("land " + text, x.land(), y.land());
    }

    private void week(String text) {
        feed(text);
        due("week " + text, x.week(), y.week());
    }

    private void readMuch() {
        while (calls < 400) {
            int pick = drawn.below(6);
            if (pick < 2) {
                land(drawn.land());
            } else if (pick == 2) {
                land(drawn.lawText());
            } else if (pick == 3) {
                land(drawn.scraps());
            } else if (pick == 4) {
                week(drawn.week(y.count(0), y.count(1)));
            } else {
                week(drawn.scraps());
            }
            counts();
        }
    }

    private void live() {
        land(drawn.land());
        while (calls < 460) {
            int pick = drawn.below(100);
            if (pick == 0) {
                land(drawn.land());
            } else if (pick < 4) {
                week(drawn.week(y.count(0), y.count(1)));
                judged();
            } else if (pick < 50) {
                act();
            } else if (pick < 55) {
                counts();
            } else if (pick < 60) {
                people();
            } else {
                foresee();
            }
        }
    }

    private int street() {
        return drawn.near(0, Math.max(0, y.count(0) - 1));
    }

    private int person() {
        return drawn.near(0, Math.max(0, y.count(1) - 1));
    }

    private void act() {
        int p = person();
        int o = person();
        int s = street();
        int m = drawn.near(0, 3);
        int n = drawn.near(0, 99);
        switch (drawn.below(12)) {
            case 0, 1, 2 -> due("walk " + p + " " + s, x.walk(p, s), y.walk(p, s));
            case 3, 4, 5, 6 -> due("wind " + p + " " + o, x.wind(p, o), y.wind(p, o));
            case 7 -> due("mend " + p, x.mend(p), y.mend(p));
            case 8 -> due("hour", x.hour(), y.hour());
            case 9 -> due("undo", x.undo(), y.undo());
            case 10 -> {
                boolean back = drawn.below(2) == 0;
                due("mark " + m + " " + back, x.mark(m, back), y.mark(m, back));
            }
            default -> {
                int left = drawn.below(3) == 0 ? n : y.person(p, 2) + y.gives(o, p);
                due("tale " + p + " " + left, x.tale(p, left), y.tale(p, left));
            }
        }
    }

    private void counts() {
        for (int what = -1; what <= 13; what++) {
            due("count " + what, x.count(what), y.count(what));
        }
    }

    private void people() {
        int p = person();
        int o = person();
        int s = street();
        for (int what = -1; what <= 6; what++) {
            due("person " + p + " " + what, x.person(p, what), y.person(p, what));
        }
        due("wound " + p + " " + o, x.wound(p, o), y.wound(p, o));
        due("gives " + p + " " + o, x.gives(p, o), y.gives(p, o));
        due("lanes " + s, x.lanes(s), y.lanes(s));
    }

    private void judged() {
        for (int what = -1; what <= 3; what++) {
            due("judged " + what, x.judged(what), y.judged(what));
        }
    }

    private void foresee() {
        int p = person();
        int o = person();
        int what = drawn.near(0, 2);
        switch (drawn.below(14)) {
            case 0 -> due("stops " + p, x.stops(p), y.stops(p));
            case 1 -> due("august", x.august(), y.august());
            case 2 -> {
                int h = drawn.near(1, 4);
                int w = drawn.near(0, Math.max(1, Math.min(4, h)));
                due("plan " + p + " " + h + " " + w, x.plan(p, h, w), y.plan(p, h, w));
            }
            case 3 -> due("stand " + p, x.stand(p), y.stand(p));
            case 4 -> {
                int h = drawn.near(1, 24);
                int w = drawn.near(0, 1);
                due("fewest " + h + " " + w, x.fewest(h, w), y.fewest(h, w));
            }
            case 5, 6 -> due("sets " + p + " " + what, x.sets(p, what), y.sets(p, what));
            case 7 -> due("ask " + p, x.ask(p), y.ask(p));
            case 8 -> {
                int h = drawn.near(1, 6);
                due("meet " + p + " " + o + " " + h, x.meet(p, o, h), y.meet(p, o, h));
            }
            case 9 -> due("engaged", x.engaged(), y.engaged());
            case 10 -> {
                int q = drawn.below(3) == 0 ? -1 : p;
                due("pairs " + q, x.pairs(q), y.pairs(q));
            }
            case 11 -> due("tinkers", x.tinkers(), y.tinkers());
            case 12 -> {
                int both = drawn.near(0, 9);
                int loses = drawn.below(2) == 0 ? 0 : drawn.near(0, 9);
                int gets = drawn.near(0, 9);
                int w = drawn.near(-1, 3);
                due("rests " + both + " " + loses + " " + gets + " " + w, Check.rests(x, both, loses, gets, w),
                        y.rests(both, loses, gets, w));
            }
            default -> {
                int seed = drawn.near(0, 9999);
                int h = drawn.near(1, 99);
                due("years " + seed + " " + h + " " + what, x.years(seed, h, what), y.years(seed, h, what));
            }
        }
    }
}
