/** Each call that is refused: what it answers, and that all stays as it was; and that asking changes nothing. */
public final class RefusedTest {
    private static final int[] NOBODY = {-1, 3, 6, 31, 32, Integer.MIN_VALUE, Integer.MAX_VALUE};

    private static String untouched;

    /** A call; a boolean answers 1 or 0, an exception Check.THROWS. */
    private interface Doing {
        int on(StrangeWinding x);
    }

    public static void main(String[] args) {
        untouched = Portrait.takenApart(scene());
        people();
        walks();
        windings();
        mendings();
        nothingToUndo();
        foresight();
        tales();
        offers();
        marks();
        landsWithFaults();
        weeksWithFaults();
        askingChangesNothing();
        Check.end();
    }

    /** Something of all: one SNAPPED, a WEEK, two TALES, two MARKS, four doings to undo, signs on the TAPE. */
    private static StrangeWinding scene() {
        StrangeWinding x = Check.told("street a;street b;street c;lane a b;person p plain at a left 9;"
                + "person q deaf at a left 20;person r sun at b left 30;snap 22;soon 3;winds 4+met;");
        Check.due("q snaps", x.wind(0, 1), 0);
        x.mark(0, false);
        x.hour();
        Check.week(x, "hour;mend q;wind p r;");
        x.tale(0, 12);
        x.tale(2, 1);
        x.walk(2, 0);
        x.mark(2, false);
        Check.due("r winds p", x.hour(), 1);
        Check.feed(x, "snap 7");
        return x;
    }

    private static int bit(boolean is) {
        return is ? 1 : 0;
    }

    private static void refused(String call, Doing doing, int due) {
        StrangeWinding x = scene();
        Check.due(call, doing.on(x), due);
        Check.alike(call + ": all", Portrait.takenApart(x), untouched);
    }

    // Promises 5 to 8: "NONE: others", "NONE: others, the same"
    private static void people() {
        for (int nobody : NOBODY) {
            for (int what = 0; what <= 5; what++) {
                int asked = what;
                refused("person " + nobody + " " + what, x -> x.person(nobody, asked), -1);
            }
            refused("wound " + nobody, x -> x.wound(nobody, 0), -1);
            refused("wound 0 " + nobody, x -> x.wound(0, nobody), -1);
            refused("gives " + nobody, x -> x.gives(nobody, 0), -1);
            refused("gives 0 " + nobody, x -> x.gives(0, nobody), -1);
            refused("lanes " + nobody, x -> x.lanes(nobody), -1);
        }
        for (int what : new int[] {-1, 6, 7, Integer.MIN_VALUE, Integer.MAX_VALUE}) {
            refused("person 0 " + what, x -> x.person(0, what), -1);
        }
        for (int p = 0; p < 3; p++) {
            int same = p;
            refused("wound, the same", x -> x.wound(same, same), -1);
            refused("gives, the same", x -> x.gives(same, same), -1);
        }
        refused("count -1", x -> x.count(-1), -1);
        refused("count 13", x -> x.count(13), -1);
    }

    /** A LAND in which one reason alone stands against a doing of 1 (on 2), with 0 to look at what stays. */
    private static StrangeWinding apart(String more) {
        StrangeWinding x = Check.told("street y;street z;lane y z;street a;street b;street c;lane a b;"
                + "person w sun at y left 50;" + more);
        x.walk(0, 1);
        x.mark(1, false);
        x.tale(0, 50);
        Check.week(x, "walk w z;hour;");
        x.walk(0, 0);
        return x;
    }

    private static void refusedAt(String why, String land, Doing doing, int due) {
        StrangeWinding x = apart(land);
        Check.due(why, doing.on(x), due);
        Check.alike(why + ": all", Portrait.takenApart(x), Portrait.takenApart(apart(land)));
    }

    private static void doneAt(String why, String land, Doing doing, int due) {
        StrangeWinding x = apart(land);
        Check.due(why, doing.on(x), due);
        Check.due(why + ": can be undone", x.count(11), 3);
    }

    // Promise 9: "false: others, it can't be"
    private static void walks() {
        String one = "person p plain at a left 1;";
        doneAt("by a lane", one, x -> bit(x.walk(1, 3)), 1);
        refusedAt("who sits", "person p plain at a left 0;", x -> bit(x.walk(1, 3)), 0);
        refusedAt("where he is", one, x -> bit(x.walk(1, 2)), 0);
        refusedAt("no lane", one, x -> bit(x.walk(1, 4)), 0);
        refusedAt("two lanes away", one + "lane b c;", x -> bit(x.walk(1, 4)), 0);
        for (int none : new int[] {-1, 5, 32, 35, Integer.MIN_VALUE, Integer.MAX_VALUE}) {
            refusedAt("no STREET " + none, one, x -> bit(x.walk(1, none)), 0);
        }
        for (int none : new int[] {-1, 2, 33, Integer.MIN_VALUE, Integer.MAX_VALUE}) {
            refusedAt("nobody " + none, one, x -> bit(x.walk(none, 3)), 0);
        }
        refused("who is snapped", x -> bit(x.walk(1, 1)), 0);
    }

    // Promise 10: "NONE: others, it can't be"
    private static void windings() {
        String p = "person p plain at a left 9;";
        String q = "person q plain at a left 9;";
        doneAt("can be", p + q + "winds 4;", x -> x.wind(1, 2), 13);
        refusedAt("a hermit", "person p hermit at a left 9;" + q, x -> x.wind(1, 2), -1);
        refusedAt("who sits", "person p plain at a left 0;" + q, x -> x.wind(1, 2), -1);
        refusedAt("they know each other", p + q + "knows p q;", x -> x.wind(1, 2), -1);
        refusedAt("and the other way", p + q + "knows q p;", x -> x.wind(1, 2), -1);
        refusedAt("a sun's", p + "person q sun at a left 9;", x -> x.wind(1, 2), -1);
        refusedAt("another STREET", p + "person q plain at b left 9;", x -> x.wind(1, 2), -1);
        refusedAt("one's own", p + q, x -> x.wind(1, 1), -1);
        for (int none : new int[] {-1, 3, 33, Integer.MIN_VALUE, Integer.MAX_VALUE}) {
            refusedAt("nobody " + none, p + q, x -> x.wind(none, 2), -1);
            refusedAt("nobody's " + none, p + q, x -> x.wind(1, none), -1);
        }
        refused("a snapped one's", x -> x.wind(0, 1), -1);
        refused("who is snapped", x -> x.wind(1, 0), -1);
        strangersNoMore();
    }

    private static void strangersNoMore() {
        for (int soon = 1; soon <= 3; soon++) {
            String land = "person p plain at a left 9;person q plain at a left 9;winds 0;soon " + soon + ";";
            StrangeWinding x = apart(land);
            StrangeWinding twin = apart(land);
            for (int i = 0; i < soon; i++) {
                Check.due("winds", x.wind(1, 2) + twin.wind(1, 2), 18);
            }
            Check.due("once too often", x.wind(1, 2), -1);
            Check.due("the other way, too", x.wind(2, 1), -1);
            Check.alike("strangers no more: all", Portrait.takenApart(x), Portrait.takenApart(twin));
        }
    }

    // Promise 11: "false: others, it is not SNAPPED"
    private static void mendings() {
        refused("one that goes", x -> bit(x.mend(0)), 0);
        refused("one that goes", x -> bit(x.mend(2)), 0);
        for (int nobody : NOBODY) {
            refused("nobody's " + nobody, x -> bit(x.mend(nobody)), 0);
        }
        refusedAt("one that has 0 hours", "person p plain at a left 0;", x -> bit(x.mend(1)), 0);
        StrangeWinding x = scene();
        Check.due("a snapped one", x.mend(1), true);
        Check.due("can be undone", x.count(11), 5);
    }

    // Promise 13: "false: nothing can be"
    private static void nothingToUndo() {
        StrangeWinding x = new StrangeWinding();
        Check.due("at first", x.undo(), false);
        Check.alike("at first: all", Portrait.takenApart(x), Portrait.takenApart(new StrangeWinding()));
        StrangeWinding y = scene();
        StrangeWinding twin = scene();
        y.mark(2, true);
        twin.mark(2, true);
        for (int i = 0; i < 3; i++) {
            Check.due("behind a mark", y.undo(), false);
        }
        Check.alike("behind a mark: all", Portrait.takenApart(y), Portrait.takenApart(twin));
        String land = "street a;person p sun at a left 9;";
        StrangeWinding z = Check.told(land);
        Check.due("a new LAND", z.undo(), false);
        Check.alike("a new LAND: all", Portrait.takenApart(z), Portrait.takenApart(Check.told(land)));
    }

    // Promises 14 to 19, 22, 23, 25, 28: "others"
    private static void foresight() {
        refused("judged 3", x -> x.judged(3), -2);
        refused("judged -1", x -> x.judged(-1), -2);
        refused("plan of 0 hours", x -> x.plan(0, 0, 0), -1);
        refused("plan of 5 hours", x -> x.plan(0, 5, 0), -1);
        refused("plan, what -1", x -> x.plan(0, 4, -1), -1);
        refused("plan, what 5", x -> x.plan(0, 4, 5), -1);
        refused("stand of who sits", x -> x.stand(1), -1);
        refused("fewest of 0 hours", x -> x.fewest(0, 0), -2);
        refused("fewest of 25 hours", x -> x.fewest(25, 0), -2);
        refused("fewest, what -1", x -> x.fewest(1, -1), -2);
        refused("fewest, what 2", x -> x.fewest(1, 2), -2);
        refused("fewest, by none", x -> x.fewest(1, 0), -2);
        refused("meet of 0 hours", x -> x.meet(0, 1, 0), -1);
        refused("meet of 7 hours", x -> x.meet(0, 1, 7), -1);
        refused("meet in the same STREET", x -> x.meet(0, 1, 1), -1);
        refused("meet oneself", x -> x.meet(0, 0, 1), -1);
        refused("pairs -2", x -> x.pairs(-2), -2);
        refused("years of no hours", x -> x.years(1, 0, 0), -1);
        refused("years of 100 hours", x -> x.years(1, 100, 0), -1);
        refused("years by -1", x -> x.years(-1, 9, 0), -1);
        refused("years by 10000", x -> x.years(10000, 9, 0), -1);
        refused("years, what -1", x -> x.years(1, 9, -1), -1);
        refused("years, what 3", x -> x.years(1, 9, 3), -1);
        for (int nobody : NOBODY) {
            refused("stops " + nobody, x -> x.stops(nobody), -1);
            refused("plan " + nobody, x -> x.plan(nobody, 2, 0), -1);
            refused("stand " + nobody, x -> x.stand(nobody), -1);
            refused("ask " + nobody, x -> x.ask(nobody), -1);
            refused("meet " + nobody, x -> x.meet(nobody, 0, 1), -1);
            refused("meet 0 " + nobody, x -> x.meet(0, nobody, 1), -1);
            refused("pairs " + nobody, x -> x.pairs(nobody == -1 ? -3 : nobody), -2);
        }
    }

    // Promises 20, 21: "false: others"; "NONE: others, no set (but 0)"
    private static void tales() {
        for (int left : new int[] {-1, 100, Integer.MIN_VALUE, Integer.MAX_VALUE}) {
            refused("tale of " + left, x -> bit(x.tale(0, left)), 0);
            refused("tale of " + left, x -> bit(x.tale(1, left)), 0);
        }
        for (int nobody : NOBODY) {
            refused("tale of " + nobody, x -> bit(x.tale(nobody, 5)), 0);
            for (int what = 0; what <= 2; what++) {
                int asked = what;
                refused("sets of " + nobody, x -> x.sets(nobody, asked), -1);
            }
        }
        for (int what : new int[] {-1, 3, Integer.MIN_VALUE, Integer.MAX_VALUE}) {
            refused("sets, what " + what, x -> x.sets(0, what), -1);
            refused("sets without a TALE, what " + what, x -> x.sets(1, what), -1);
        }
        refused("no set: how many", x -> x.sets(2, 0), 0);
        refused("no set: in all", x -> x.sets(2, 1), -1);
        refused("no set: in some", x -> x.sets(2, 2), -1);
        refused("no set: ask", x -> x.ask(2), -1);
    }

    // Promise 27: "NoSuchElementException: others, none such"
    private static void offers() {
        refused("both 10", x -> Check.rests(x, 10, 1, 1, -1), Check.THROWS);
        refused("both -1", x -> Check.rests(x, -1, 1, 1, -1), Check.THROWS);
        refused("loses 10", x -> Check.rests(x, 1, 10, 1, -1), Check.THROWS);
        refused("loses -1", x -> Check.rests(x, 1, -1, 1, -1), Check.THROWS);
        refused("gets 10", x -> Check.rests(x, 1, 1, 10, -1), Check.THROWS);
        refused("gets -1", x -> Check.rests(x, 1, 1, -1, -1), Check.THROWS);
        refused("none such", x -> Check.rests(x, 1, 1, 1, 2), Check.THROWS);
        refused("none such", x -> Check.rests(x, 1, 1, 1, -2), Check.THROWS);
        refused("none such", x -> Check.rests(x, 0, 0, 0, 4), Check.THROWS);
    }

    // Promise 29: "false: none such, nothing is on it (back)"
    private static void marks() {
        for (int mark : new int[] {-1, 4, 5, 32, Integer.MIN_VALUE, Integer.MAX_VALUE}) {
            refused("lay " + mark, x -> bit(x.mark(mark, false)), 0);
            refused("back to " + mark, x -> bit(x.mark(mark, true)), 0);
        }
        refused("nothing on 1", x -> bit(x.mark(1, true)), 0);
        refused("nothing on 3", x -> bit(x.mark(3, true)), 0);
    }

    // Promise 3: "its FAULT (all stays then)", but for the TAPE
    private static void landsWithFaults() {
        String sound = "street k;street l;lane k l;person m sun at k left 3;person n sun at l left 3;knows m n;soon 9;snap 9;"
                + "winds 1;";
        String[] spoilt = {"!", "lane k x;", "street k;", "street o;street u;street v;street w;", "soon 9;", "hour;",
            "person z sun at k left 100;"};
        int[] kinds = {1, 2, 3, 5, 3, 1, 4};
        int[] behind = {0, 7, 7, 27, 0, 0, 23};
        for (int i = 0; i < spoilt.length; i++) {
            String text = sound + spoilt[i];
            int fault = kinds[i] + 16 * (sound.length() + behind[i]);
            faultLeavesAll("land " + text, x -> Check.land(x, text), fault);
        }
        faultLeavesAll("land soon", x -> Check.land(x, "soon"), 1 + 16 * 4);
        faultLeavesAll("land (((((1", x -> Check.land(x, "soon 1;snap 1;winds (((((1)))));"), 5 + 16 * 25);
    }

    // Promise 4: "likewise"
    private static void weeksWithFaults() {
        String sound = "hour;mend q;walk p b;wind p q;hour;";
        String[] spoilt = {"!", "mend a;", "wind p p;", "mend", "street k;", "hour;".repeat(35) + "hour;"};
        int[] kinds = {1, 2, 3, 1, 1, 5};
        int[] behind = {0, 5, 7, 4, 0, 175};
        for (int i = 0; i < spoilt.length; i++) {
            String text = sound + spoilt[i];
            int fault = kinds[i] + 16 * (sound.length() + behind[i]);
            faultLeavesAll("week " + text, x -> Check.week(x, text), fault);
        }
    }

    private static void faultLeavesAll(String call, Doing doing, int due) {
        StrangeWinding x = emptied();
        StrangeWinding twin = emptied();
        Check.due(call, doing.on(x), due);
        Check.due(call + ": the TAPE is empty", x.count(12), 0);
        Check.alike(call + ": all", Portrait.takenApart(x), Portrait.takenApart(twin));
        StrangeWinding later = emptied();
        doing.on(later);
        Check.due(call + ": the names stay", Check.week(later, "walk p c;wind q r;mend r;"), 0);
        Check.due(call + ": no others came", Check.week(later, "mend m;"), 2 + 16 * 5);
    }

    /** The scene, with nothing on the TAPE. */
    private static StrangeWinding emptied() {
        StrangeWinding x = scene();
        Check.due("signs that are no WEEK", x.week(), 1);
        return x;
    }

    // Promises 5 to 8, 14 to 19, 21 to 28, 30 ask, and do nothing: "(all is as ahead then)"
    private static void askingChangesNothing() {
        unmoved("judged", x -> x.judged(0) + x.judged(1) + x.judged(2));
        unmoved("stops", x -> x.stops(0) + x.stops(1) + x.stops(2));
        unmoved("august", x -> x.august());
        unmoved("plan", x -> x.plan(0, 4, 0) + x.plan(2, 3, 1));
        unmoved("stand", x -> x.stand(0) + x.stand(2));
        unmoved("fewest", x -> x.fewest(1, 0) + x.fewest(24, 1));
        unmoved("sets", x -> x.sets(0, 0) + x.sets(1, 1) + x.sets(2, 2));
        unmoved("ask", x -> x.ask(0) + x.ask(1));
        unmoved("meet", x -> x.meet(0, 2, 6));
        unmoved("engaged", x -> x.engaged());
        unmoved("pairs", x -> x.pairs(-1) + x.pairs(0));
        unmoved("tinkers", x -> x.tinkers());
        unmoved("rests", x -> Check.rests(x, 1, 1, 1, -1));
        unmoved("years", x -> x.years(9999, 99, 0) + x.years(5, 40, 1) + x.years(0, 1, 2));
        unmoved("gives", x -> x.gives(0, 1) + x.gives(2, 1));
    }

    private static void unmoved(String call, Doing doing) {
        StrangeWinding x = scene();
        int first = doing.on(x);
        Check.due(call + " again", doing.on(x), first);
        Check.alike(call + ": all", Portrait.takenApart(x), untouched);
    }
}
