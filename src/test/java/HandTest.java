/** Promises 1, 5 to 13, 24, 26, 29, 30: what is told of people, what is done by hand, and undone. */
public final class HandTest {
    private static final String FOUR = "street a;street b;street c;lane a b;lane c b;"
            + "person p plain at a left 5;person h hermit at a left 20;person d deaf at a left 30;"
            + "person s sun at a left 3;";

    public static void main(String[] args) {
        nothing();
        people();
        walks();
        windings();
        kindsWind();
        strangersNoMore();
        snapping();
        hours();
        hoursGoByNumbers();
        undone();
        laws();
        marks();
        engagedOnes();
        tinkersAll();
        wrongInputs();
        Check.end();
    }

    private static void nothing() {
        StrangeWinding x = new StrangeWinding();
        int[] due = {0, 0, 3, 60, 0, 0, 0, 0, 0, 0, 0, 0, 0, -1};
        for (int what = 0; what < due.length; what++) {
            Check.due("at first, count " + what, x.count(what), due[what]);
        }
        Check.due("NONE", StrangeWinding.NONE, -1);
        Check.due("mark laid on nothing", x.mark(0, false), true);
        Check.due("mark gone back to", x.mark(0, true), true);
        Check.due("empty WEEK", x.week(), 0);
        Check.due("no person", x.person(0, 0), -1);
        Check.due("no street", x.lanes(0), -1);
    }

    private static void people() {
        StrangeWinding x = Check.told(FOUR + "knows p h;");
        int[][] due = {{0, 0, 5, 0, 0, 12}, {1, 0, 20, 0, 0, 12}, {2, 0, 30, 0, 0, 11}, {3, 0, 3, 0, 0, 7}};
        for (int p = 0; p < 4; p++) {
            for (int what = 0; what < 6; what++) {
                Check.due("person " + p + " " + what, x.person(p, what), due[p][what]);
            }
        }
        Check.due("another what", x.person(0, 6), -1);
        Check.due("another what", x.person(0, -1), -1);
        Check.due("another person", x.person(4, 0), -1);
        Check.due("another person", x.person(-1, 0), -1);
        Check.due("lanes a", x.lanes(0), 2);
        Check.due("lanes b", x.lanes(1), 5);
        Check.due("lanes c", x.lanes(2), 2);
        Check.due("lanes none", x.lanes(3), -1);
        Check.due("lanes none", x.lanes(-1), -1);
        Check.due("hours left of all", x.count(7), 58);
    }

    private static void walks() {
        StrangeWinding x = Check.told(FOUR + "person z plain at a left 0;");
        Check.due("no lane", x.walk(0, 2), false);
        Check.due("the same street", x.walk(0, 0), false);
        Check.due("who sits", x.walk(4, 1), false);
        Check.due("a lane", x.walk(0, 1), true);
        Check.due("is there", x.person(0, 1), 1);
        Check.due("told the other way", x.walk(0, 2), true);
        Check.due("is there", x.person(0, 1), 2);
        Check.due("any kind", x.walk(1, 1) && x.walk(2, 1) && x.walk(3, 1), true);
        Check.due("no street", x.walk(0, 3), false);
        Check.due("no street", x.walk(0, -1), false);
        Check.due("no person", x.walk(5, 1), false);
        Check.due("no person", x.walk(-1, 1), false);
        Check.due("walks are no hours", x.count(4), 0);
    }

    private static void windings() {
        StrangeWinding x = Check.told(FOUR);
        Check.due("one's own", x.wind(0, 0), -1);
        Check.due("nobody's", x.wind(0, 4), -1);
        Check.due("by nobody", x.wind(-1, 0), -1);
        Check.due("30 less 5", x.gives(3, 0), 25);
        Check.due("wind", x.wind(3, 0), 30);
        Check.due("wound", x.wound(3, 0), 1);
        Check.due("not the other way", x.wound(0, 3), 0);
        Check.due("windings", x.count(8), 1);
        x.walk(0, 1);
        Check.due("another street", x.wind(3, 0), -1);
        Check.due("what it would be", x.gives(3, 0), 0);
        Check.due("wound one's own", x.wound(0, 0), -1);
        Check.due("wound others", x.wound(0, 4), -1);
        Check.due("gives one's own", x.gives(1, 1), -1);
        Check.due("gives others", x.gives(4, 1), -1);
        Check.due("gives others", x.gives(1, -1), -1);
    }

    private static void kindsWind() {
        StrangeWinding x = Check.told(FOUR + "person z plain at a left 0;knows p d;winds 11;");
        Check.due("hermits do not", x.wind(1, 0), -1);
        Check.due("hermits would", x.gives(1, 0), 11);
        Check.due("hermits are wound", x.wind(0, 1), 31);
        Check.due("the deaf half, cut", x.gives(2, 1), 5);
        Check.due("the deaf half, cut", x.wind(2, 1), 36);
        Check.due("the deaf are wound", x.wind(3, 2), 41);
        Check.due("suns are not", x.wind(0, 3), -1);
        Check.due("suns would", x.gives(0, 3), 11);
        Check.due("suns do", x.wind(3, 1), 47);
        Check.due("known", x.wind(0, 2), -1);
        Check.due("known, the other way", x.wind(2, 0), -1);
        Check.due("known would", x.gives(0, 2), 11);
        Check.due("who sits", x.wind(4, 0), -1);
        Check.due("who sits is wound", x.wind(0, 4), 11);
        Check.due("and winds then", x.wind(4, 0), 16);
    }

    private static void strangersNoMore() {
        StrangeWinding x = Check.told("street a;person p plain at a left 9;person q plain at a left 9;soon 2;winds 1;");
        Check.due("strangers", x.person(0, 5), 2);
        Check.due("first", x.wind(0, 1), 10);
        Check.due("strangers yet", x.person(1, 5), 1);
        Check.due("second, the other one", x.wind(1, 0), 10);
        Check.due("strangers no more", x.person(0, 5), 0);
        Check.due("third", x.wind(0, 1), -1);
        Check.due("third", x.wind(1, 0), -1);
        StrangeWinding y = Check.told("street a;person p plain at a left 9;person q plain at a left 9;winds 1;");
        y.wind(0, 1);
        y.wind(0, 1);
        Check.due("soon is 3", y.person(0, 5), 2);
        y.wind(0, 1);
        Check.due("soon is 3", y.person(0, 5), 0);
    }

    private static void snapping() {
        StrangeWinding x = Check.told("street a;street b;lane a b;person p plain at a left 9;"
                + "person q plain at a left 20;snap 30;soon 9;winds 10;");
        Check.due("as many as snap", x.wind(0, 1), 30);
        Check.due("not yet", x.person(1, 3), 0);
        Check.due("more than snap", x.wind(0, 1), 0);
        Check.due("snapped", x.person(1, 3), 1);
        Check.due("sits", x.person(1, 4), 1);
        Check.due("bits", x.count(6), 2);
        Check.due("sitting bits", x.count(5), 2);
        Check.due("a snapped one is not wound", x.wind(0, 1), -1);
        Check.due("and does not wind", x.wind(1, 0), -1);
        Check.due("and does not walk", x.walk(1, 1), false);
        Check.due("windings", x.count(8), 2);
        x.hour();
        Check.due("for good", x.person(1, 3), 1);
        Check.due("not snapped", x.mend(0), false);
        Check.due("nobody", x.mend(2), false);
        Check.due("nobody", x.mend(-1), false);
        Check.due("mended", x.mend(1), true);
        Check.due("one hour", x.person(1, 2), 1);
        Check.due("not snapped", x.person(1, 3), 0);
        Check.due("not again", x.mend(1), false);
        Check.due("wound again", x.wind(0, 1), 11);
        StrangeWinding y = Check.told("street a;person p plain at a left 9;person q plain at a left 99;snap 50;winds 0;");
        Check.due("above snap as told", y.person(1, 2), 99);
        Check.due("snaps by a winding of 0", y.wind(0, 1), 0);
        Check.due("snapped", y.count(6), 2);
        StrangeWinding z = Check.told("street a;person p plain at a left 0;");
        Check.due("stopped is not snapped", z.mend(0), false);
        Check.due("stopped sits", z.count(5), 1);
    }

    private static void hours() {
        StrangeWinding x = Check.told("street a;street b;person p plain at a left 12;person q plain at a left 9;"
                + "person r plain at a left 10;person s plain at b left 1;winds 5;soon 1;");
        Check.due("only q has less than 10", x.hour(), 1);
        int[] due = {11, 13, 9, 0};
        for (int p = 0; p < 4; p++) {
            Check.due("left of " + p, x.person(p, 2), due[p]);
        }
        Check.due("the first one wound", x.wound(0, 1), 1);
        Check.due("the next hour", x.count(4), 1);
        Check.due("windings", x.count(8), 1);
        Check.due("now r", x.hour(), 1);
        Check.due("by p", x.wound(0, 2), 1);
        Check.due("0 stays 0", x.person(3, 2), 0);
        Check.due("hours", x.count(4), 2);
    }

    private static void hoursGoByNumbers() {
        StrangeWinding x = Check.told("street a;person p plain at a left 0;person q plain at a left 0;"
                + "person r plain at a left 3;winds 2;soon 1;");
        Check.due("r winds p, then q; p and q are wound too late for one another", x.hour(), 2);
        Check.due("r winds p", x.wound(2, 0), 1);
        Check.due("r winds q", x.wound(2, 1), 1);
        Check.due("p", x.person(0, 2), 1);
        Check.due("p winds q", x.hour(), 1);
        Check.due("first one first", x.wound(0, 1), 1);
        StrangeWinding y = Check.told("street a;person p plain at a left 4;person q plain at a left 0;winds 3;soon 2;");
        Check.due("wound, it winds back at once", y.hour(), 2);
        Check.due("p wound q", y.wound(0, 1), 1);
        Check.due("q wound p", y.wound(1, 0), 1);
        Check.due("p", y.person(0, 2), 6);
        Check.due("q", y.person(1, 2), 2);
        StrangeWinding ten = Check.told("street a;person p plain at a left 10;person q plain at a left 10;winds 3;");
        Check.due("10 is not less than 10", ten.hour(), 0);
        Check.due("9 is", ten.hour(), 2);
        StrangeWinding back = Check.told("street a;person p plain at a left 10;person q plain at a left 9;winds 3;");
        Check.due("q's alone", back.hour(), 1);
        StrangeWinding both = Check.told("street a;person p plain at a left 15;person q plain at a left 15;"
                + "person r plain at a left 9;winds 9;snap 20;");
        both.wind(2, 0);
        both.wind(2, 1);
        Check.due("two are snapped", both.count(6), 3);
        StrangeWinding z = Check.told("street a;person p plain at a left 4;person q plain at a left 9;winds 9;snap 15;soon 9;");
        Check.due("q snaps, and does not wind back", z.hour(), 1);
        Check.due("snapped", z.count(6), 2);
        Check.due("snapped loses no hour", z.person(1, 2), 0);
    }

    private static void undone() {
        StrangeWinding x = Check.told(FOUR + "winds 9;soon 9;snap 20;");
        x.walk(1, 1);
        x.walk(3, 1);
        x.wind(2, 0);
        x.wind(2, 0);
        x.wind(2, 0);
        x.wind(2, 0);
        Check.due("snapped by the fourth", x.count(6), 1);
        x.mend(0);
        x.hour();
        Check.due("eight", x.count(11), 8);
        Check.due("hour gone", x.undo(), true);
        Check.due("hour", x.count(4), 0);
        Check.due("one hour left", x.person(0, 2), 1);
        Check.due("mend gone", x.undo(), true);
        Check.due("snapped", x.count(6), 1);
        Check.due("wind gone", x.undo(), true);
        Check.due("not snapped", x.count(6), 0);
        Check.due("three windings", x.count(8), 3);
        Check.due("wound", x.wound(2, 0), 3);
        Check.due("left", x.person(0, 2), 17);
        x.undo();
        x.undo();
        x.undo();
        Check.due("nothing wound", x.wound(2, 0), 0);
        Check.due("walk gone", x.undo(), true);
        Check.due("s is at a", x.person(3, 1), 0);
        Check.due("h is at b yet", x.person(1, 1), 1);
        Check.due("walk gone", x.undo(), true);
        Check.due("h is at a", x.person(1, 1), 0);
        Check.due("nothing can be", x.undo(), false);
        for (int i = 0; i < 20; i++) {
            x.hour();
        }
        Check.due("sixteen", x.count(11), 16);
        x.walk(0, 2);
        x.wind(0, 0);
        x.mend(9);
        Check.due("what can't be is not kept", x.count(11), 16);
        x.tale(0, 4);
        Check.week(x, "hour;");
        for (int i = 0; i < 16; i++) {
            Check.due("undo " + i, x.undo(), true);
        }
        Check.due("four hours are for good", x.count(4), 4);
        Check.due("no more", x.undo(), false);
        Check.due("tales stay", x.count(10), 1);
        Check.due("the week stays", x.count(9), 1);
    }

    private static void lawIs(String law, int due) {
        StrangeWinding x = Check.told("street a;street b;person p plain at a left 7;person q plain at b left 4;"
                + "person r sun at b left 3;person t plain at a left 3;person u plain at b left 0;winds " + law + ";");
        Check.due("winds " + law, x.gives(0, 1), due);
    }

    private static void laws() {
        lawIs("goes", 4);
        lawIs("thumb", 7);
        lawIs("met", 0);
        lawIs("crowd", 2);
        lawIs("41", 40);
        lawIs("40", 40);
        lawIs("0-3", 0);
        lawIs("20-5-3", 12);
        lawIs("2+3*4", 14);
        lawIs("(2+3)*4", 20);
        lawIs("2*3*4+1", 25);
        lawIs("goes<thumb", 1);
        lawIs("thumb<goes", 0);
        lawIs("4<goes", 0);
        lawIs("goes=4", 1);
        lawIs("goes=5", 0);
        lawIs("goes+3=thumb", 1);
        lawIs("not goes", 0);
        lawIs("not met", 1);
        lawIs("not not 7", 1);
        lawIs("not 5+3", 3);
        lawIs("not(0*3)+3", 4);
        lawIs("5 and 6", 1);
        lawIs("5 and 0", 0);
        lawIs("0 or 6", 1);
        lawIs("0 or 0", 0);
        lawIs("1 or 0 and 0", 0);
        lawIs("0 and 0 or 1", 1);
        lawIs("1 or (0 and 0)", 1);
        lawIs("(1<2)*7+(2<1)*9", 7);
        lawIs("9999*9999", 40);
        lawIs("9999*9999*30", 0);
        lawIs("9999*9999*60", 40);
        lawIs("8192*8192*64+17", 17);
        StrangeWinding x = Check.told("street a;person p plain at a left 9;person q plain at a left 9;"
                + "person r plain at a left 0;winds met*4+crowd;soon 9;");
        Check.due("met 0", x.wind(0, 1), 10);
        Check.due("met 1, of both", x.gives(1, 0), 5);
        Check.due("met 1", x.wind(1, 0), 14);
        Check.due("met 2", x.wind(1, 0), 23);
        Check.due("met 3", x.gives(0, 1), 13);
        Check.due("met 0 with another", x.gives(0, 2), 1);
    }

    private static void marks() {
        StrangeWinding x = Check.told(FOUR + "winds 9;");
        Check.due("nothing on it", x.mark(1, true), false);
        Check.due("none such", x.mark(4, false), false);
        Check.due("none such", x.mark(-1, false), false);
        Check.due("none such", x.mark(4, true), false);
        Check.due("none such", x.mark(-1, true), false);
        Check.week(x, "hour;hour;");
        x.tale(1, 3);
        x.walk(0, 1);
        Check.due("laid", x.mark(3, false), true);
        Check.due("laying leaves undo", x.count(11), 1);
        x.hour();
        x.wind(2, 1);
        Check.week(x, "hour;");
        x.tale(2, 3);
        x.tale(1, 9);
        Check.due("another one", x.mark(0, false), true);
        Check.feed(x, "str");
        Check.due("back", x.mark(3, true), true);
        Check.due("the hour", x.count(4), 0);
        Check.due("windings", x.count(8), 0);
        Check.due("wound", x.wound(2, 1), 0);
        Check.due("street", x.person(0, 1), 1);
        Check.due("left", x.person(1, 2), 20);
        Check.due("week", x.count(9), 2);
        Check.due("tales", x.count(10), 1);
        Check.due("the tape stays", x.count(12), 3);
        Check.due("nothing can be undone", x.undo(), false);
        x.walk(0, 0);
        Check.due("the other one", x.mark(0, true), true);
        Check.due("the hour", x.count(4), 1);
        Check.due("tales", x.count(10), 2);
        Check.due("week", x.count(9), 1);
        Check.due("again", x.mark(3, true), true);
        Check.due("a mark is not worn", x.person(0, 1), 1);
        Check.due("laid anew", x.mark(0, false) && x.mark(0, true), true);
        Check.due("in place of the elder", x.count(4), 0);
    }

    private static void engagedOnes() {
        StrangeWinding x = Check.told("street a;person p plain at a left 9;person q plain at a left 9;"
                + "person r plain at a left 9;soon 9;winds 1;");
        x.wind(0, 1);
        x.wind(0, 1);
        x.wind(1, 0);
        Check.due("not yet", x.engaged(), 0);
        x.wind(1, 0);
        Check.due("engaged", x.engaged(), 1);
        x.wind(1, 0);
        Check.due("or more", x.engaged(), 1);
        x.wind(2, 1);
        x.wind(2, 1);
        x.wind(1, 2);
        x.wind(1, 2);
        Check.due("two pairs", x.engaged(), 2);
        x.undo();
        Check.due("undone", x.engaged(), 1);
    }

    private static void tinkersAll() {
        StrangeWinding x = Check.told("street a;street b;person p plain at a left 9;person q plain at a left 9;"
                + "person r plain at b left 0;knows p r;knows q r;soon 1;");
        Check.due("r", x.tinkers(), 4);
        x.wind(0, 1);
        Check.due("all", x.tinkers(), 7);
        Check.due("one alone", Check.told("street a;person p plain at a left 9;").tinkers(), 1);
    }

    private static void wrongInputs() {
        StrangeWinding x = Check.told(FOUR);
        Check.due("count", x.count(-1), -1);
        Check.due("count", x.count(13), -1);
        Check.due("count", x.count(Integer.MAX_VALUE), -1);
        Check.due("walk", x.walk(Integer.MAX_VALUE, Integer.MIN_VALUE), false);
        Check.due("wind", x.wind(Integer.MIN_VALUE, 0), -1);
        Check.due("lanes", x.lanes(Integer.MIN_VALUE), -1);
    }
}
