/** Promises 1, 5 to 14, 24, 26, 29, 30 at their edges: for each sentence that names a limit, a test of its own. */
public final class EdgeHandTest {
    private static final String PAIR = "street a;street b;lane a b;";
    private static final String SIX = "street a;person p plain at a left 9;person q plain at a left 9;"
            + "person r plain at a left 9;person s plain at a left 9;person t plain at a left 9;person u plain at a left 9;";

    public static void main(String[] args) {
        nothingAtFirst();
        yearsOfNobody();
        streetsWithoutPeople();
        strangers();
        sitting();
        laws();
        windings();
        snaps();
        hours();
        undoing();
        judging();
        engagedAndTinkers();
        marks();
        counts();
        countsWhenFull();
        Check.end();
    }

    private static void strangers() {
        strangersLessThanSoon();
        strangersTogether();
        strangersNotTold();
        noStrangerToOneself();
    }

    private static void sitting() {
        zeroHoursSit();
        whoSitsDoesNotWalk();
        walksByLanesAlone();
    }

    private static void laws() {
        withoutALaw();
        zeroToForty();
        deafHalfCut();
        oneOrZero();
        whatIsNotZeroIsSo();
        fromTheLeft();
        intsWrap();
        factsAtTheirEdges();
        crowdOfOthers();
    }

    private static void windings() {
        hermitsDoNotWind();
        sunsAreNotWound();
        inTheSameStreet();
        stoppedOnesAreWound();
        windingsOfNothingCount();
    }

    private static void snaps() {
        moreThanSnap();
        snappedForGood();
        mendedHasOneHour();
        toldAboveSnap();
    }

    private static void hours() {
        lessThanTen();
        oneBehindAnother();
        anHourLess();
        hoursOfAll();
        fiveHundredHours();
    }

    private static void undoing() {
        theLastSixteen();
        undoneGoesRound();
        oneByOne();
        whatIsNotUndone();
    }

    private static void judging() {
        judgedFromTheBeginning();
        judgedToTheLastLine();
        judgedSnaps();
        judgedLeavesOut();
        judgedWithoutAWeek();
    }

    private static void engagedAndTinkers() {
        engagedTwiceEach();
        engagedAll();
        tinkersOfNobody();
    }

    private static void marks() {
        fourMarks();
        marksHold();
        marksAndUndo();
        marksOfNothing();
    }

    /** Two strangers in one STREET: 0 has so many hours left, 1 so many; more may be told behind. */
    private static StrangeWinding two(int first, int other, String more) {
        return Check.told("street a;street b;lane a b;person p plain at a left " + first + ";person q plain at a left "
                + other + ";" + more);
    }

    private static int rests(StrangeWinding x, int what) {
        return Check.rests(x, 4, 3, 6, what);
    }

    // "At first: nothing."; Promise 1: "Nothing."
    private static void nothingAtFirst() {
        StrangeWinding x = new StrangeWinding();
        nothingIn(x);
        Check.due("hour", x.hour(), 0);
        Check.due("undo", x.undo(), true);
        Check.due("an empty LAND", x.land(), 0);
        nothingIn(x);
    }

    private static void nothingIn(StrangeWinding x) {
        int[] counts = {0, 0, 3, 60, 0, 0, 0, 0, 0, 0, 0, 0, 0};
        for (int what = 0; what <= 12; what++) {
            Check.due("count " + what, x.count(what), counts[what]);
        }
        for (int i = -1; i <= 1; i++) {
            Check.due("person", x.person(i, 0), -1);
            Check.due("wound", x.wound(i, i + 1), -1);
            Check.due("lanes", x.lanes(i), -1);
            Check.due("gives", x.gives(i, 0), -1);
            Check.due("walk", x.walk(i, 0), false);
            Check.due("wind", x.wind(i, 0), -1);
            Check.due("mend", x.mend(i), false);
            Check.due("stops", x.stops(i), -1);
            Check.due("plan", x.plan(i, 1, 0), -1);
            Check.due("stand", x.stand(i), -1);
            Check.due("tale", x.tale(i, 0), false);
            Check.due("sets", x.sets(i, 0), -1);
            Check.due("ask", x.ask(i), -1);
            Check.due("meet", x.meet(i, i + 1, 1), -1);
            Check.due("pairs", x.pairs(i), i == -1 ? 0 : -2);
            Check.due("nobody draws, nobody winds", x.years(7, 99, i + 1), 0);
            Check.due("judged", x.judged(i + 1), i == 1 ? 0 : -1);
        }
        Check.due("undo", x.undo(), false);
        Check.due("august: nobody", x.august(), 0);
        Check.due("nobody must walk", x.fewest(24, 0), 0);
        Check.due("nobody walks", x.fewest(24, 1), -1);
        Check.due("engaged", x.engaged(), 0);
        Check.due("tinkers", x.tinkers(), 0);
        Check.due("rests", rests(x, -1), 1);
        Check.due("mark", x.mark(0, true), false);
    }

    // "if there are PEOPLE": none are left of an elder LAND, nor of one that was refused.
    private static void yearsOfNobody() {
        StrangeWinding x = new StrangeWinding();
        Check.land(x, "street a;person p plain at b left 3;");
        Check.land(x, "street a;person p plain at c left 3;");
        for (int hours = 1; hours <= 99; hours += 14) {
            for (int what = 0; what <= 2; what++) {
                Check.due("refused, years " + hours, x.years(hours, hours, what), 0);
            }
        }
        String told = "street a;street b;lane a b;person p plain at b left 3;person q plain at b left 0;";
        Check.land(x, told);
        Check.land(x, told);
        Check.land(x, "street a;person p plain at c left 3;");
        Check.due("an empty one", x.land(), 0);
        for (int what = 0; what <= 2; what++) {
            Check.due("empty, years", x.years(7, 99, what), 0);
        }
    }

    // STREETS told, nobody in them.
    private static void streetsWithoutPeople() {
        StrangeWinding x = Check.told("street a;street b;street c;street d;street e;lane e a;");
        Check.due("lanes", x.lanes(0), 16);
        Check.due("nobody walks", x.walk(0, 4), false);
        Check.due("nobody sits", x.count(5), 0);
        Check.due("august", x.august(), 0);
        Check.due("fewest", x.fewest(1, 0), 0);
        Check.due("pairs", x.pairs(-1), 0);
        Check.due("no one", x.pairs(0), -2);
        Check.due("tinkers", x.tinkers(), 0);
        Check.due("years", x.years(1, 5, 2), 0);
        Check.due("hour", x.hour(), 0);
        Check.due("stand", x.stand(0), -1);
    }

    // "have wound each other's less than soon times"
    private static void strangersLessThanSoon() {
        for (int soon = 1; soon <= 9; soon++) {
            StrangeWinding x = two(5, 5, "winds 1;soon " + soon + ";");
            for (int i = 0; i < soon; i++) {
                Check.due("strangers, wound " + i + " of " + soon, x.person(0, 5) * 10 + x.person(1, 5), 21);
                Check.due("winds the " + i + "-th time", x.wind(0, 1), 6 + i);
            }
            Check.due("wound", x.wound(0, 1), soon);
            Check.due("strangers no more", x.person(0, 5) + x.person(1, 5), 0);
            Check.due("winds no more", x.wind(0, 1), -1);
            Check.due("nor the other one", x.wind(1, 0), -1);
            Check.due("nor by the hour", x.hour(), 0);
            Check.due("undone", x.undo() && x.undo(), true);
            Check.due("strangers again", x.person(0, 5) * 10 + x.person(1, 5), 21);
        }
    }

    // "together"
    private static void strangersTogether() {
        for (int first = 0; first <= 4; first++) {
            StrangeWinding x = two(9, 9, "winds 1;soon 4;");
            for (int i = 0; i < 4; i++) {
                Check.due("winds", i < first ? x.wind(0, 1) : x.wind(1, 0), i < first ? 10 + i : 10 + i - first);
            }
            Check.due("strangers no more", x.person(0, 5) + x.person(1, 5), 0);
            Check.due("wound", x.wound(0, 1) * 10 + x.wound(1, 0), 10 * first + 4 - first);
        }
    }

    // "Two are STRANGERS if they are not told to know each other": whichever is told first
    private static void strangersNotTold() {
        for (String knows : "knows p q;,knows q p;".split(",")) {
            StrangeWinding x = two(9, 9, "person r plain at b left 9;" + knows);
            Check.due("r to p", x.person(0, 5), 4);
            Check.due("r to q", x.person(1, 5), 4);
            Check.due("both to r, in another STREET", x.person(2, 5), 3);
            Check.due("known", x.wind(0, 1) + x.wind(1, 0), -2);
        }
    }

    private static void noStrangerToOneself() {
        StrangeWinding x = Check.told(SIX);
        for (int p = 0; p < 6; p++) {
            Check.due("all but oneself", x.person(p, 5), 63 - (1 << p));
            Check.due("one's own", x.wind(p, p), -1);
            Check.due("one's own", x.gives(p, p), -1);
            Check.due("one's own", x.wound(p, p), -1);
        }
    }

    // "A watch that has 0 hours left, or is SNAPPED, has stopped: who has it SITS."
    private static void zeroHoursSit() {
        for (int left = 0; left <= 2; left++) {
            StrangeWinding x = Check.told("street a;person p sun at a left " + left + ";");
            Check.due("sits with " + left, x.person(0, 4), left == 0 ? 1 : 0);
            Check.due("bits", x.count(5), left == 0 ? 1 : 0);
            Check.due("snapped", x.person(0, 3) + x.count(6), 0);
        }
        StrangeWinding x = two(9, 9, "snap 1;winds 0;");
        Check.due("snaps", x.wind(0, 1), 0);
        Check.due("sits", x.person(1, 4), 1);
        Check.due("bits", x.count(5), 2);
        Check.due("1 SNAPPED", x.person(1, 3), 1);
        Check.due("the other one is not", x.person(0, 3), 0);
    }

    // "WALK: one who does not SIT"
    private static void whoSitsDoesNotWalk() {
        StrangeWinding x = two(1, 0, "winds 1;soon 9;snap 1;");
        Check.due("who has 0 hours", x.walk(1, 1), false);
        Check.due("wound", x.wind(0, 1), 1);
        Check.due("who has 1 hour", x.walk(1, 1), true);
        Check.due("and back", x.walk(1, 0), true);
        Check.due("wound, it snaps", x.wind(0, 1), 0);
        Check.due("who has a snapped one", x.walk(1, 1), false);
        Check.due("mended", x.mend(1), true);
        Check.due("walks", x.walk(1, 1), true);
    }

    // "to another STREET to which there is a lane"
    private static void walksByLanesAlone() {
        StrangeWinding x = Check.told("street a;street b;street c;street d;street e;lane a b;lane c b;lane e a;"
                + "person p hermit at a left 9;");
        int[] lanes = {18, 5, 2, 0, 1};
        int at = 0;
        for (int street : new int[] {0, 2, 3, 4, 2, 0, 1, 3, 4, 1, 2, 0, 4, 1}) {
            boolean can = (lanes[at] >> street & 1) == 1;
            Check.due("from " + at + " to " + street, x.walk(0, street), can);
            at = can ? street : at;
            Check.due("is there", x.person(0, 1), at);
        }
    }

    private static void lawIs(String law, int due) {
        StrangeWinding x = two(7, 4, "winds " + law + ";");
        Check.due("winds " + law, x.gives(0, 1), due);
    }

    // "Without winds: 30 less goes."
    private static void withoutALaw() {
        for (int goes : new int[] {0, 1, 29, 30, 31, 99}) {
            Check.due("goes " + goes, two(9, goes, "").gives(0, 1), Math.max(0, 30 - goes));
        }
    }

    // "(0 to 40; ...)"
    private static void zeroToForty() {
        for (int n : new int[] {0, 1, 39, 40}) {
            lawIs("" + n, n);
            Check.due("wound by " + n, two(9, 9, "winds " + n + ";").wind(0, 1), 9 + n);
        }
        for (int n : new int[] {41, 42, 9999}) {
            lawIs("" + n, 40);
            Check.due("wound by " + n, two(9, 9, "winds " + n + ";").wind(0, 1), 49);
        }
        lawIs("0-1", 0);
        lawIs("0-9999", 0);
        Check.due("no hour less", two(9, 9, "winds 0-5;").wind(0, 1), 9);
    }

    // "by a deaf one half of that, cut"
    private static void deafHalfCut() {
        int[][] halves = {{0, 0}, {1, 0}, {2, 1}, {3, 1}, {39, 19}, {40, 20}, {41, 20}, {9999, 20}};
        for (int[] half : halves) {
            StrangeWinding x = Check.told("street a;person p deaf at a left 9;person q deaf at a left 9;"
                    + "person r plain at a left 9;winds " + half[0] + ";");
            Check.due("by a deaf one, of " + half[0], x.gives(0, 1), half[1]);
            Check.due("of a deaf one, whole", x.gives(2, 1), Math.min(40, half[0]));
            Check.due("wound", x.wind(0, 1), 9 + half[1]);
        }
        StrangeWinding x = Check.told("street a;person p deaf at a left 9;person q sun at a left 9;winds 0-3;");
        Check.due("of less than nothing", x.gives(0, 1), 0);
    }

    // "Of not, and, or, < and = comes 1 or 0"
    private static void oneOrZero() {
        for (String one : "not 0|7 and 7|7 or 0|0 or 7|3<4|0-4<0-3|4=4|0-4=0-4|not not 9".split("\\|")) {
            lawIs(one, 1);
            lawIs("(" + one + ")*9", 9);
        }
        for (String zero : "not 7|7 and 0|0 and 7|0 and 0|0 or 0|4<4|4<3|0-3<0-4|4=5|4=0-4|not not 0".split("\\|")) {
            lawIs(zero, 0);
            lawIs("(" + zero + ")*9+5", 5);
        }
    }

    // "what is not 0 is so"
    private static void whatIsNotZeroIsSo() {
        lawIs("not(0-1)+7", 7);
        lawIs("(0-1)and(0-1)", 1);
        lawIs("(0-1)or 0", 1);
        lawIs("8192*8192*32 and 1", 1);
        lawIs("8192*8192*64 or 0", 0);
        lawIs("not(8192*8192*64)", 1);
        lawIs("2 and 1", 1);
        lawIs("4 and 3", 1);
    }

    // "TEST { and TEST or or TEST }, from the left"; SUM and PRODUCT, likewise
    private static void fromTheLeft() {
        lawIs("1 or 1 and 0", 0);
        lawIs("1 or (1 and 0)", 1);
        lawIs("0 and 0 or 1", 1);
        lawIs("0 and (0 or 1)", 0);
        lawIs("9-5-3", 1);
        lawIs("9-(5-3)", 7);
        lawIs("9-5+3", 7);
        lawIs("1+2*3", 7);
        lawIs("2*3+1", 7);
        lawIs("20-2*3*3", 2);
        lawIs("1+2<4", 1);
        lawIs("5<1+2*3", 1);
        lawIs("1<2 and 2<1 or 3=3", 1);
        lawIs("not 1+1", 1);
        lawIs("not 0*9", 9);
        lawIs("not goes=0", 1);
    }

    // "ints wrap"
    private static void intsWrap() {
        lawIs("8192*8192*32-1", 40);
        lawIs("8192*8192*32", 0);
        lawIs("8192*8192*32<0", 1);
        lawIs("8192*8192*32-1<0", 0);
        lawIs("8192*8192*32-1+1<0", 1);
        lawIs("0-8192*8192*32<0", 1);
        lawIs("0-8192*8192*32-1", 40);
        lawIs("8192*8192*64", 0);
        lawIs("8192*8192*64+17", 17);
        lawIs("8192*8192*64=0", 1);
        lawIs("9999*9999*9999*9999*9999+9999*9999*9999*9999", wrapped());
    }

    private static int wrapped() {
        int four = 9999 * 9999 * 9999 * 9999;
        return Math.max(0, Math.min(40, four * 9999 + four));
    }

    // "goes (hours left of who is wound), thumb (hours left of who winds), met (... together)"
    private static void factsAtTheirEdges() {
        for (int left : new int[] {0, 1, 39, 40, 99}) {
            StrangeWinding x = two(left, 9, "winds thumb;");
            Check.due("thumb " + left, x.gives(0, 1), Math.min(40, left));
            Check.due("thumb 9", x.gives(1, 0), 9);
            StrangeWinding y = two(9, left, "winds goes;");
            Check.due("goes " + left, y.gives(0, 1), Math.min(40, left));
            Check.due("goes 9", y.gives(1, 0), 9);
        }
        StrangeWinding x = two(1, 1, "winds met;soon 9;");
        for (int i = 0; i < 9; i++) {
            Check.due("met " + i, x.gives(0, 1) * 10 + x.gives(1, 0), 11 * i);
            Check.due("winds", i % 2 == 0 ? x.wind(0, 1) >= 0 : x.wind(1, 0) >= 0, true);
        }
        Check.due("met 9, though it can't be", x.gives(0, 1), 9);
        Check.due("can't be", x.wind(0, 1), -1);
        StrangeWinding s = two(1, 9, "winds goes+thumb*5+20;snap 29;");
        Check.due("snaps", s.wind(0, 1), 0);
        Check.due("a snapped one has 0 hours: goes", s.gives(0, 1), 25);
        Check.due("thumb", s.gives(1, 0), 21);
    }

    // "crowd (how many others than the two are in the STREET of who is wound)"
    private static void crowdOfOthers() {
        StrangeWinding x = Check.told("street a;street b;lane a b;person p plain at a left 9;person q plain at a left 9;"
                + "person r hermit at a left 0;person s sun at a left 9;person t plain at a left 9;person u plain at a left 9;"
                + "winds crowd;");
        Check.due("four others, whoever they are", x.gives(0, 1), 4);
        for (int p : new int[] {3, 4, 5}) {
            Check.due("walks", x.walk(p, 1), true);
            Check.due("one less", x.gives(0, 1), 6 - p);
            Check.due("in the STREET of who is wound", x.gives(0, p), p - 3);
            Check.due("who winds is elsewhere", x.gives(p, 0), 2 + 5 - p);
        }
        StrangeWinding six = Check.told("street a;street b;person p plain at a left 9;person q plain at a left 9;"
                + "person r plain at a left 9;person s plain at b left 9;person t plain at b left 9;person u plain at b left 9;"
                + "winds crowd+1;");
        for (int p = 0; p < 6; p++) {
            for (int other = 0; other < 6; other++) {
                int due = p == other ? -1 : p / 3 == other / 3 ? 2 : 3;
                Check.due("crowd about " + other + ", wound by " + p, six.gives(p, other), due);
            }
        }
    }

    // "a PERSON who is no hermit"
    private static void hermitsDoNotWind() {
        String[] kinds = {"plain", "hermit", "deaf", "sun"};
        for (String kind : kinds) {
            StrangeWinding x = Check.told("street a;person p " + kind + " at a left 9;person q plain at a left 5;winds 8;");
            Check.due(kind + " winds", x.wind(0, 1), kind.equals("hermit") ? -1 : kind.equals("deaf") ? 9 : 13);
            StrangeWinding y = Check.told("street a;person p " + kind + " at a left 9;person q plain at a left 5;winds 8;");
            Check.due(kind + " by the hour", y.hour(), (kind.equals("hermit") ? 0 : 1) + (kind.equals("sun") ? 0 : 1));
        }
    }

    // "a STRANGER's (who is no sun, ...)"
    private static void sunsAreNotWound() {
        String[] kinds = {"plain", "hermit", "deaf", "sun"};
        for (String kind : kinds) {
            StrangeWinding x = Check.told("street a;person p plain at a left 9;person q " + kind + " at a left 5;winds 8;");
            Check.due(kind + " is wound", x.wind(0, 1), kind.equals("sun") ? -1 : 13);
            Check.due(kind + " would be", x.gives(0, 1), 8);
        }
    }

    // "in the same STREET"
    private static void inTheSameStreet() {
        StrangeWinding x = two(9, 5, "winds 8;");
        x.walk(0, 1);
        Check.due("apart", x.wind(0, 1) + x.wind(1, 0), -2);
        Check.due("nor by the hour", x.hour(), 0);
        Check.due("would be", x.gives(0, 1), 8);
        x.walk(1, 1);
        Check.due("together", x.wind(0, 1), 12);
    }

    // A watch of 0 hours is wound, if it is not SNAPPED.
    private static void stoppedOnesAreWound() {
        StrangeWinding x = two(9, 0, "winds 8;");
        Check.due("who sits does not wind", x.wind(1, 0), -1);
        Check.due("is wound", x.wind(0, 1), 8);
        Check.due("sits no more", x.count(5), 0);
        Check.due("winds", x.wind(1, 0), 17);
        StrangeWinding y = two(9, 0, "winds 0;");
        Check.due("wound by nothing", y.wind(0, 1), 0);
        Check.due("sits yet", y.count(5), 2);
        Check.due("not snapped", y.count(6), 0);
        Check.due("both sit", two(0, 0, "").hour(), 0);
    }

    // "0 to 40": a winding by 0 hours is one, too.
    private static void windingsOfNothingCount() {
        StrangeWinding x = two(9, 9, "winds 0;soon 1;");
        Check.due("wound", x.wind(0, 1), 9);
        Check.due("windings", x.count(8) * 10 + x.wound(0, 1), 11);
        Check.due("strangers no more", x.person(0, 5), 0);
        Check.due("can be undone", x.count(11), 1);
    }

    // "if it has more than snap then it is SNAPPED: 0 hours left"
    private static void moreThanSnap() {
        for (int snap : new int[] {1, 2, 59, 60, 98, 99}) {
            int had = Math.max(0, snap - 40);
            StrangeWinding x = two(9, had, "snap " + snap + ";winds " + (snap - had) + ";");
            Check.due("as many as snap " + snap, x.wind(0, 1), snap);
            Check.due("not snapped", x.count(6) * 10 + x.count(5), 0);
            StrangeWinding y = two(9, had + 1, "snap " + snap + ";winds " + (snap - had) + ";");
            Check.due("one more than snap " + snap, y.wind(0, 1), 0);
            Check.due("snapped, sits", y.count(6) * 10 + y.count(5), 22);
            Check.due("hours left", y.person(1, 2), 0);
            Check.due("by what it would be, ahead of any snap", y.undo() ? y.gives(0, 1) : -9, snap - had);
        }
        StrangeWinding x = two(9, 21, "winds 40;");
        Check.due("60 without snap", x.wind(0, 1), 0);
        Check.due("60 is not more", two(9, 20, "winds 40;").wind(0, 1), 60);
    }

    // "for good"; "not SNAPPED"
    private static void snappedForGood() {
        StrangeWinding x = two(50, 20, "person r plain at a left 50;soon 9;snap 22;winds 3*(goes=20);");
        Check.due("snaps", x.wind(0, 1), 0);
        for (int i = 0; i < 20; i++) {
            Check.due("not wound", x.wind(0, 1), -1);
            Check.due("by nobody", x.wind(2, 1), -1);
            Check.due("hour", x.hour(), 0);
            Check.due("snapped, sits", x.count(6) * 10 + x.count(5), 22);
        }
        Check.due("windings", x.count(8), 1);
        Check.due("strangers yet", x.person(1, 5), 5);
    }

    // "MEND: one's that is SNAPPED: it is not; it has 1 hour left."
    private static void mendedHasOneHour() {
        StrangeWinding x = two(9, 9, "soon 9;snap 10;winds 2;");
        Check.due("not snapped yet", x.mend(1), false);
        Check.due("snaps", x.wind(0, 1), 0);
        Check.due("another one's is not", x.mend(0), false);
        Check.due("mended", x.mend(1), true);
        Check.due("one hour", x.person(1, 2), 1);
        Check.due("neither snapped nor sits", x.count(6) + x.count(5) + x.person(1, 3) + x.person(1, 4), 0);
        Check.due("not again", x.mend(1), false);
        Check.due("wound again", x.wind(0, 1), 3);
        Check.due("who has 0 hours is not snapped", two(9, 0, "").mend(1), false);
    }

    // Hours told above snap stay until a winding.
    private static void toldAboveSnap() {
        StrangeWinding x = two(9, 99, "snap 1;winds 0;knows p q;person r sun at a left 99;");
        Check.due("hour", x.hour(), 1);
        Check.due("p, wound by r with more than snap, snaps", x.count(6), 1);
        Check.due("q goes on", x.person(1, 2), 98);
        Check.due("r goes on", x.person(2, 2), 98);
    }

    // "if that has less than 10 hours left"
    private static void lessThanTen() {
        for (int left = 0; left <= 12; left++) {
            StrangeWinding x = two(50, left, "winds 3;");
            Check.due("left " + left, x.hour(), left < 10 ? 1 : 0);
            Check.due("then", x.person(1, 2), left < 10 ? left + 2 : left - 1);
            StrangeWinding y = two(left, 50, "winds 3;");
            Check.due("the other way, left " + left, y.hour(), left < 10 ? 1 : 0);
            Check.due("by the other one", y.wound(1, 0) * 10 + y.wound(0, 1), left < 10 ? 10 : 0);
        }
    }

    // "for each two by the lesser PERSON, then the other one, one behind another"
    private static void oneBehindAnother() {
        StrangeWinding x = Check.told(SIX + "winds 1;soon 1;");
        Check.due("0 winds all others, who have 10 then; strangers no more, they do not wind back", x.hour(), 5);
        for (int p = 1; p < 6; p++) {
            Check.due("0 winds " + p, x.wound(0, p), 1);
        }
        StrangeWinding y = Check.told("street a;person p plain at a left 0;person q plain at a left 0;"
                + "person r plain at a left 1;winds 1;soon 1;");
        // (0, 1) both sit; (0, 2): 2 winds 0; (1, 2): 2 winds 1.
        Check.due("two windings", y.hour(), 2);
        Check.due("by 2", y.wound(2, 0) * 10 + y.wound(2, 1), 11);
        StrangeWinding z = Check.told("street a;person p plain at a left 1;person q plain at a left 0;"
                + "person r plain at a left 0;winds 1;soon 1;");
        // (0, 1): 0 winds 1; (0, 2): 0 winds 2; (1, 2): 1, which goes now, winds 2.
        Check.due("three windings", z.hour(), 3);
        Check.due("0 winds 1, 0 winds 2, 1 winds 2", z.wound(0, 1) * 100 + z.wound(0, 2) * 10 + z.wound(1, 2), 111);
        StrangeWinding full = Check.told(SIX + "winds 0;");
        Check.due("each two, both ways", full.hour(), 30);
        Check.due("the first one once more, then strangers no more", full.hour(), 15);
        Check.due("by the lesser one", full.wound(0, 5) * 10 + full.wound(5, 0), 21);
        Check.due("none", full.hour(), 0);
    }

    // "Then each watch that has not stopped has an hour less."; "It is the next hour."
    private static void anHourLess() {
        StrangeWinding x = Check.told("street a;person p sun at a left 2;person q sun at a left 1;person r sun at a left 0;");
        int[] due = {1, 0, 0};
        int[] sits = {6, 7, 7};
        for (int i = 0; i < 3; i++) {
            Check.due("hour", x.hour(), 0);
            Check.due("hours left of all", x.count(7), due[i]);
            Check.due("who sits", x.count(5), sits[i]);
            Check.due("the next hour", x.count(4), i + 1);
        }
        StrangeWinding y = two(9, 0, "winds 1;snap 1;soon 1;");
        Check.due("wound to 1", y.hour(), 1);
        Check.due("and worn off", y.person(1, 2), 0);
        Check.due("sits", y.count(5), 2);
        Check.due("not snapped", y.count(6), 0);
    }

    // Promise 12: "how many windings"
    private static void hoursOfAll() {
        StrangeWinding x = two(9, 9, "winds 5;soon 9;snap 11;");
        Check.due("q snaps", x.hour(), 1);
        Check.due("a winding that snaps is one", x.count(8), 1);
        Check.due("nobody winds", x.hour(), 0);
        x.mend(1);
        Check.due("both ways", x.hour(), 2);
        Check.due("p snaps, q has 5 hours", x.count(6) * 10 + x.person(1, 2), 15);
    }

    // "An object is used for at most 512 calls"
    private static void fiveHundredHours() {
        StrangeWinding x = new StrangeWinding();
        for (int i = 0; i < 490; i++) {
            x.hour();
        }
        Check.due("hours", x.count(4), 490);
        Check.due("undone", x.count(11), 16);
        for (int i = 0; i < 16; i++) {
            Check.due("undo", x.undo(), true);
        }
        Check.due("no more", x.undo(), false);
        Check.due("hours", x.count(4), 474);
    }

    // "UNDO: all of these, the last 16"
    private static void theLastSixteen() {
        for (int n = 0; n <= 40; n++) {
            StrangeWinding x = new StrangeWinding();
            for (int i = 0; i < n; i++) {
                x.hour();
            }
            int can = Math.min(16, n);
            Check.due("what can be undone of " + n, x.count(11), can);
            for (int i = 1; i <= can; i++) {
                Check.due("undo", x.undo(), true);
                Check.due("hour", x.count(4), n - i);
                Check.due("left", x.count(11), can - i);
            }
            Check.due("nothing can be", x.undo(), false);
            Check.due("hour stays", x.count(4), n - can);
        }
    }

    // The last 16, when some are undone between.
    private static void undoneGoesRound() {
        StrangeWinding x = new StrangeWinding();
        int hours = 0;
        int can = 0;
        for (int round = 0; round < 9; round++) {
            for (int i = 0; i < 3 + 2 * round; i++) {
                x.hour();
                hours++;
                can = Math.min(16, can + 1);
            }
            for (int i = 0; i < 2 + round; i++) {
                Check.due("undo", x.undo(), true);
                hours--;
                can--;
            }
            Check.due("hour", x.count(4), hours);
            Check.due("can be", x.count(11), can);
        }
        for (int i = 0; i < can; i++) {
            x.undo();
        }
        Check.due("hour", x.count(4), hours - can);
        Check.due("nothing can be", x.undo(), false);
    }

    // "UNDO: all of these" (WALK, WIND, MEND, HOUR), "one by one"
    private static void oneByOne() {
        StrangeWinding x = two(30, 9, "soon 9;snap 20;winds 6;");
        String[] seen = new String[17];
        String doings = "hwwmmhaabhwhbamh";
        int done = 0;
        for (int i = 0; i < doings.length(); i++) {
            String now = brief(x);
            if (isDone(x, doings.charAt(i))) {
                seen[done] = now;
                done++;
            }
        }
        Check.due("done", done, 10);
        Check.due("can be", x.count(11), done);
        for (int i = done - 1; i >= 0; i--) {
            Check.due("undo", x.undo(), true);
            Check.alike("undone to the " + i + "-th", brief(x), seen[i]);
        }
        Check.due("nothing can be", x.undo(), false);
    }

    private static boolean isDone(StrangeWinding x, char doing) {
        switch (doing) {
            case 'h':
                x.hour();
                return true;
            case 'w':
                return x.wind(0, 1) >= 0;
            case 'm':
                return x.mend(1);
            default:
                return x.walk(0, doing - 'a');
        }
    }

    private static String brief(StrangeWinding x) {
        StringBuilder text = new StringBuilder();
        for (int what = 4; what <= 11; what++) {
            text.append(x.count(what)).append(' ');
        }
        for (int p = 0; p < 2; p++) {
            text.append(x.person(p, 1)).append(' ').append(x.person(p, 2)).append(' ');
        }
        return text.append(x.wound(0, 1)).append(' ').append(x.wound(1, 0)).toString();
    }

    // What is none of these is neither kept nor undone: WEEKS, TALES, MARKS, the TAPE.
    private static void whatIsNotUndone() {
        StrangeWinding x = two(30, 9, "");
        Check.week(x, "hour;");
        x.tale(0, 3);
        x.mark(1, false);
        Check.feed(x, "abc");
        Check.due("nothing can be", x.count(11), 0);
        Check.due("nothing can be", x.undo(), false);
        x.hour();
        x.tale(1, 4);
        x.week();
        Check.week(x, "hour;hour;");
        Check.feed(x, "ab");
        x.mark(2, false);
        Check.due("the hour", x.count(11), 1);
        Check.due("undone", x.undo(), true);
        Check.due("WEEK, TALES, TAPE stay", x.count(9) * 100 + x.count(10) * 10 + x.count(12), 222);
        Check.due("MARKS stay", x.mark(2, true), true);
        Check.due("with the hour", x.count(4), 1);
    }

    // "JUDGED: the WEEK from the beginning"
    private static void judgedFromTheBeginning() {
        StrangeWinding x = two(9, 5, "winds 20;snap 30;soon 2;");
        Check.week(x, "wind p q;walk p b;hour;");
        String asTold = judged(x);
        Check.alike("judged", asTold, "-1 -1 0 -2 -2");
        x.walk(0, 1);
        x.hour();
        x.walk(1, 1);
        x.wind(0, 1);
        x.wind(0, 1);
        Check.due("snapped, strangers no more", x.count(6) + x.person(0, 5), 2);
        Check.alike("not from now", judged(x), asTold);
        x.mark(0, false);
        x.mark(0, true);
        Check.alike("nor from a mark", judged(x), asTold);
    }

    private static String judged(StrangeWinding x) {
        return x.judged(0) + " " + x.judged(1) + " " + x.judged(2) + " " + x.judged(3) + " " + x.judged(-1);
    }

    // "the first line (from 0) that can't be": up to the 40th
    private static void judgedToTheLastLine() {
        StrangeWinding x = two(99, 98, "");
        for (int line = 0; line < 40; line += 13) {
            Check.week(x, "hour;".repeat(line) + "mend p;" + "hour;".repeat(39 - line));
            Check.due("line " + line, x.judged(0), line);
        }
        Check.week(x, "hour;".repeat(40));
        Check.due("an hour always can", x.judged(0), -1);
        Check.week(x, "mend p;".repeat(40));
        Check.due("the first one", x.judged(0), 0);
        StrangeWinding y = two(39, 30, "winds 0;snap 9;");
        Check.week(y, "hour;".repeat(39) + "walk p a;");
        Check.due("the 40th", y.judged(0), 39);
        Check.week(y, "hour;".repeat(29));
        Check.due("p has 10 hours, q has 1", y.judged(2), 0);
        Check.week(y, "hour;".repeat(30));
        Check.due("q sits", y.judged(2), 2);
        Check.week(y, "hour;".repeat(40));
        Check.due("both sit", y.judged(2), 3);
    }

    // "the first one by which a watch is SNAPPED"
    private static void judgedSnaps() {
        StrangeWinding x = two(50, 10, "winds 5;snap 19;soon 9;person r plain at b left 50;");
        Check.week(x, "hour;wind p q;wind p q;mend q;wind p q;wind p q;wind p q;wind p q;");
        Check.due("9 + 5 + 5 is no more than 19, the next winding is", x.judged(1), 4);
        Check.due("not snapped: it can't be mended", x.judged(0), 3);
        Check.week(x, "wind p q;wind p q;mend q;wind p q;wind p q;wind p q;wind p q;");
        Check.due("10 + 5 + 5", x.judged(1), 1);
        Check.due("then, mended, to 19 and no further", x.judged(0), -1);
        Check.due("snaps again by the last one", x.judged(2), 2);
        Check.week(x, "wind p q;hour;hour;hour;hour;hour;hour;wind p q;hour;hour;hour;hour;hour;wind r q;wind p q;wind p q;");
        Check.due("r is elsewhere", x.judged(0), 13);
        StrangeWinding y = two(50, 9, "winds 40;snap 19;");
        Check.week(y, "walk p b;hour;walk p a;hour;hour;");
        Check.due("by an hour", y.judged(1), 3);
        Check.week(y, "wind p q;");
        Check.due("by the first line", y.judged(1), 0);
        Check.week(y, "hour;".repeat(3));
        Check.due("the first of three", y.judged(1), 0);
        Check.week(y, "walk p b;" + "hour;".repeat(3) + "walk p a;" + "mend p;".repeat(34) + "wind p q;");
        Check.due("by the 40th", y.judged(1), 39);
    }

    // "a line that can't be is left out"
    private static void judgedLeavesOut() {
        StrangeWinding x = two(9, 1, "winds 5;");
        Check.week(x, "walk p a;walk q b;hour;walk q a;wind p q;walk q a;hour;");
        Check.due("p is there already", x.judged(0), 0);
        Check.due("q sits at b, and stays", x.judged(2), 2);
        Check.week(x, "mend q;wind p q;hour;");
        Check.due("the others are done", x.judged(2), 0);
    }

    // Promise 14: "lines (NONE: none)"
    private static void judgedWithoutAWeek() {
        StrangeWinding x = two(0, 1, "");
        Check.alike("no WEEK", judged(x), "-1 -1 1 -2 -2");
        x.hour();
        Check.alike("who sits at the beginning", judged(x), "-1 -1 1 -2 -2");
        Check.week(x, "mend q;");
        Check.alike("one line", judged(x), "0 -1 1 -2 -2");
        Check.week(x, "mend");
        Check.alike("a FAULT leaves it", judged(x), "0 -1 1 -2 -2");
        Check.week(x, "");
        Check.alike("an empty one", judged(x), "-1 -1 1 -2 -2");
    }

    // "ENGAGED: pairs who have wound each other's twice each, or more."
    private static void engagedTwiceEach() {
        for (int first = 0; first <= 4; first++) {
            for (int other = 0; other <= 4; other++) {
                StrangeWinding x = two(9, 9, "winds 0;soon 9;");
                for (int i = 0; i < first; i++) {
                    x.wind(0, 1);
                }
                for (int i = 0; i < other; i++) {
                    x.wind(1, 0);
                }
                Check.due("engaged by " + first + ", " + other, x.engaged(), first >= 2 && other >= 2 ? 1 : 0);
            }
        }
    }

    private static void engagedAll() {
        StrangeWinding x = Check.told(SIX + "winds 0;soon 4;");
        for (int i = 0; i < 2; i++) {
            Check.due("engaged", x.engaged(), 0);
            Check.due("each two", x.hour(), 30);
        }
        Check.due("all fifteen pairs", x.engaged(), 15);
        Check.due("and no strangers more", x.tinkers(), 63);
        Check.due("nor pairs", x.pairs(-1), 0);
        StrangeWinding y = Check.told(SIX + "winds 0;");
        y.hour();
        y.hour();
        y.hour();
        Check.due("three windings are too few", y.engaged(), 0);
    }

    // "TINKERS: people to whom nobody is a STRANGER."
    private static void tinkersOfNobody() {
        Check.due("one alone", Check.told("street a;person p hermit at a left 0;").tinkers(), 1);
        StrangeWinding x = Check.told(SIX + "winds 0;soon 1;knows p q;knows p r;knows p s;knows p t;");
        Check.due("u is a stranger to p", x.tinkers(), 0);
        Check.due("p winds u", x.wind(0, 5), 9);
        Check.due("p", x.tinkers(), 1);
        Check.due("all others", x.hour(), 10);
        Check.due("all", x.tinkers(), 63);
        StrangeWinding y = Check.told("street a;street b;person p plain at a left 9;person q plain at b left 9;");
        Check.due("strangers elsewhere are such", y.tinkers(), 0);
    }

    // "MARKS 0 to 3"
    private static void fourMarks() {
        StrangeWinding x = two(60, 60, "");
        for (int mark = -2; mark <= 5; mark++) {
            Check.due("nothing on " + mark, x.mark(mark, true), false);
        }
        for (int mark = -1; mark <= 4; mark++) {
            x.hour();
            Check.due("laid " + mark, x.mark(mark, false), mark >= 0 && mark <= 3);
        }
        Check.due("hours", x.count(4), 6);
        for (int mark = 4; mark >= -1; mark--) {
            Check.due("back to " + mark, x.mark(mark, true), mark >= 0 && mark <= 3);
            Check.due("its hour", x.count(4), mark == 4 ? 6 : Math.max(2, mark + 2));
        }
        for (int mark : new int[] {Integer.MIN_VALUE, Integer.MAX_VALUE, 1 << 31, -4, 4, 32}) {
            Check.due("none such", x.mark(mark, false) || x.mark(mark, true), false);
        }
    }

    // "hold how it is, the WEEK, TALES"
    private static void marksHold() {
        StrangeWinding x = two(60, 9, "soon 9;snap 12;winds 4;");
        x.wind(0, 1);
        x.walk(0, 1);
        x.hour();
        x.tale(0, 5);
        Check.week(x, "hour;mend q;");
        Check.due("snapped", x.count(6), 2);
        String held = Portrait.of(x) + Portrait.asked(x);
        Check.due("laid", x.mark(2, false), true);
        x.mend(1);
        x.walk(0, 0);
        x.hour();
        x.tale(0, 6);
        x.tale(1, 6);
        Check.week(x, "hour;");
        Check.due("gone on", (Portrait.of(x) + Portrait.asked(x)).equals(held), false);
        Check.due("back", x.mark(2, true), true);
        x.walk(0, 0);
        x.undo();
        x.hour();
        Check.due("back again", x.mark(2, true), true);
        // All but what can be undone, which is the one thing that a MARK does not hold.
        Check.alike("as it was", Portrait.of(x) + Portrait.asked(x), held.replace("2 1 3 0; person", "2 1 0 0; person"));
    }

    // "nothing can be undone when one is gone back to"
    private static void marksAndUndo() {
        StrangeWinding x = two(60, 60, "");
        x.hour();
        x.hour();
        x.mark(0, false);
        Check.due("laying one leaves it", x.count(11), 2);
        x.hour();
        Check.due("undone", x.undo(), true);
        Check.due("nothing on it", x.mark(1, true), false);
        Check.due("that leaves it, too", x.count(11), 2);
        Check.due("back", x.mark(0, true), true);
        Check.due("nothing can be undone", x.count(11), 0);
        Check.due("nothing can be undone", x.undo(), false);
        x.hour();
        Check.due("what came behind can", x.count(11), 1);
        Check.due("undone", x.undo(), true);
        Check.due("to the mark", x.count(4), 2);
        Check.due("no further", x.undo(), false);
    }

    // A MARK may hold nothing, and be laid anew.
    private static void marksOfNothing() {
        StrangeWinding x = new StrangeWinding();
        Check.due("laid on nothing", x.mark(3, false), true);
        x.hour();
        Check.due("back", x.mark(3, true), true);
        Check.due("hour 0", x.count(4), 0);
        x.hour();
        Check.due("laid anew", x.mark(3, false), true);
        x.hour();
        Check.due("back", x.mark(3, true), true);
        Check.due("hour 1", x.count(4), 1);
        Check.due("a LAND", x.land(), 0);
        Check.due("no MARK is there", x.mark(3, true), false);
    }

    // Promise 30: what 0 to 12, "NONE for another what"
    private static void counts() {
        StrangeWinding x = Check.told(PAIR + "person p plain at a left 8;person q plain at a left 30;person r sun at b left 0;"
                + "soon 4;snap 31;winds 2;");
        x.wind(0, 1);
        x.walk(0, 1);
        x.hour();
        x.tale(2, 0);
        x.tale(0, 99);
        Check.week(x, "hour;mend p;mend q;");
        Check.feed(x, "winds");
        int[] due = {2, 3, 4, 31, 1, 6, 2, 7, 1, 3, 2, 3, 5};
        for (int what = 0; what <= 12; what++) {
            Check.due("count " + what, x.count(what), due[what]);
        }
        for (int what : new int[] {-1, 13, 14, -2, 256, Integer.MIN_VALUE, Integer.MAX_VALUE}) {
            Check.due("count " + what, x.count(what), -1);
        }
    }

    // Promise 30: the most that each can be
    private static void countsWhenFull() {
        String text = "street a;street b;street c;street d;street e;";
        for (int p = 0; p < 6; p++) {
            text += "person p" + "abcdef".charAt(p) + " sun at " + "abcdea".charAt(p) + " left 99;";
        }
        StrangeWinding x = Check.told(text + "soon 9;snap 99;");
        Check.due("hours left of six", x.count(7), 594);
        for (int p = 0; p < 6; p++) {
            Check.due("tale", x.tale(p, 99), true);
        }
        for (int i = 0; i < 100; i++) {
            x.hour();
        }
        Check.week(x, "hour;".repeat(40));
        Check.feed(x, "x".repeat(1000));
        int[] due = {5, 6, 9, 99, 100, 63, 0, 0, 0, 40, 6, 16, 1000};
        for (int what = 0; what <= 12; what++) {
            Check.due("count " + what, x.count(what), due[what]);
        }
    }
}
