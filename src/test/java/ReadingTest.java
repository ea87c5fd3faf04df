/** Promises 2, 3, 4: the TAPE, LANDS, WEEKS and their FAULTS. */
public final class ReadingTest {
    private static final String FIVE = "street a;street b;street c;street d;street e;";
    private static final String SIX = FIVE + "person p plain at a left 1;person q plain at a left 1;"
            + "person r plain at a left 1;person s plain at a left 1;person t plain at a left 1;"
            + "person u plain at a left 1;";
    private static final String TWO = "street a;street b;lane a b;person p plain at a left 9;"
            + "person q deaf at b left 8;";

    public static void main(String[] args) {
        tape();
        tokens();
        landFaults();
        lawFaults();
        weekFaults();
        whatALandLeaves();
        whatAFaultLeaves();
        Check.end();
    }

    private static void tape() {
        StrangeWinding x = new StrangeWinding();
        Check.due("feed nothing", x.feed(0, 0, 0), 0);
        Check.due("feed order", x.feed(Check.bytes("street a", 0), Check.bytes(";street ", 0),
                Check.bytes("b;", 0)), 18);
        Check.due("land", x.land(), 0);
        Check.due("streets", x.count(0), 2);
        Check.due("empty", x.count(12), 0);
        Check.due("signs left out", x.feed(0x0A0B201F7E7F80FFL, -1L, 0x0909090909090941L), 4);
        Check.due("land of signs", x.land(), 1 + 16 * 2);
        for (int i = 1; i <= 41; i++) {
            Check.due("feed blanks", Check.feed(x, "                        "), 24 * i);
        }
        Check.due("to the brim", Check.feed(x, "street a;                "), 1000);
        Check.due("beyond", x.feed(0x2020202020202020L, 0x20L, 0), 1000);
        Check.due("one more", x.count(12), 1000);
        Check.due("land", x.land(), 0);
        Check.due("street at the end", x.count(0), 1);
        Check.due("feed again", Check.feed(x, "week"), 4);
        Check.due("week takes", x.week(), 1);
        Check.due("empty", x.count(12), 0);
    }

    private static void landIs(String text, int fault) {
        Check.due("land " + text, Check.land(new StrangeWinding(), text), fault);
    }

    private static int at(int kind, String ahead) {
        return kind + 16 * ahead.length();
    }

    private static void tokens() {
        landIs("", 0);
        landIs("  \n ", 0);
        landIs("street abcdefgh;", 0);
        landIs("street abcdefghi;", at(1, "street "));
        landIs("soon3;", 0);
        landIs("soon 0003;", 0);
        landIs("soon 00003;", at(1, "soon "));
        landIs("soon\n3\n;\nsnap 4;", 0);
        landIs("winds 3and 4;", 0);
        landIs("winds 3or not 4;", 0);
        landIs("streets a;", 1);
        landIs("Street a;", 1);
        landIs("7;", 1);
        landIs(";", 1);
        landIs("soon 3", at(1, "soon 3"));
        landIs("soon 3  \n", at(1, "soon 3  \n"));
        landIs("soon", at(1, "soon"));
        landIs("soon 3,", at(1, "soon 3"));
        landIs("soon 3;;", at(1, "soon 3;"));
        for (String word : "street lane person knows soon snap winds".split(" ")) {
            landIs("x" + word.substring(1) + " 1;", 1);
            landIs(word.substring(0, word.length() - 1) + "x 1;", 1);
            landIs(word, at(1, word));
            landIs(word + ";", at(1, word));
        }
        StrangeWinding x = new StrangeWinding();
        Check.land(x, "soon 3333333333;");
        Check.due("what the tape held is gone", Check.land(x, "soon 3"), at(1, "soon 3"));
        Check.land(x, "street abcdefghijkl;");
        Check.due("what the tape held is gone", Check.land(x, "street a"), at(1, "street a"));
    }

    private static void landFaults() {
        landIs(FIVE, 0);
        landIs(FIVE + "street f;", at(5, FIVE));
        landIs(FIVE + "streets f;", at(1, FIVE));
        landIs(SIX, 0);
        landIs(SIX + "person v plain at a left 1;", at(5, SIX));
        String kept = "street lane person at left knows soon snap winds walk wind mend hour "
                + "plain hermit deaf sun not and or";
        for (String word : kept.split(" ")) {
            landIs("street " + word + ";", at(1, "street "));
        }
        for (String word : "goes thumb met crowd streets winding".split(" ")) {
            landIs("street " + word + ";", 0);
        }
        landIs("street a;street a;", at(3, "street a;street "));
        landIs("street a;person a plain at a left 1;", at(3, "street a;person "));
        landIs("street a;person p plain at a left 1;street p;", at(3, "street a;person p plain at a left 1;street "));
        landIs("street a b;", at(1, "street a "));
        landIs("street 5;", at(1, "street "));
        landIs("lane a b;", at(2, "lane "));
        landIs("street a;lane a b;", at(2, "street a;lane a "));
        landIs("street a;lane a a;", at(3, "street a;lane a "));
        landIs("street a;lane a at;", at(1, "street a;lane a "));
        landIs("street a;lane a;", at(1, "street a;lane a"));
        landIs(TWO + "lane b a;", at(3, TWO + "lane b "));
        landIs(TWO + "lane a b;", at(3, TWO + "lane a "));
        landIs(TWO + "lane p a;", at(2, TWO + "lane "));
        landIs(TWO + "lane a p;", at(2, TWO + "lane a "));
        landIs("street a;person p king at a left 1;", at(1, "street a;person p "));
        for (String cut : "person;person p;person p sun;person p sun at;person p sun at a;person p sun at a left".split(";")) {
            landIs("street a;" + cut + ";", at(1, "street a;" + cut));
            landIs("street a;" + cut, at(1, "street a;" + cut));
        }
        landIs("street a;person p sun in a left 1;", at(1, "street a;person p sun "));
        landIs("street a;person p sun at b left 1;", at(2, "street a;person p sun at "));
        landIs("street a;person p sun at p left 1;", at(2, "street a;person p sun at "));
        landIs("street a;person p sun at left 1;", at(1, "street a;person p sun at "));
        landIs("street a;person p sun at a right 1;", at(1, "street a;person p sun at a "));
        landIs("street a;person p sun at a left a;", at(1, "street a;person p sun at a left "));
        landIs("street a;person p sun at a left 99;", 0);
        landIs("street a;person p sun at a left 100;", at(4, "street a;person p sun at a left "));
        landIs("street a;person p sun at a left 0;", 0);
        landIs("street a;person p sun at a left -1;", at(1, "street a;person p sun at a left "));
        landIs(TWO + "knows p q;", 0);
        landIs(TWO + "knows p p;", at(3, TWO + "knows p "));
        landIs(TWO + "knows p a;", at(2, TWO + "knows p "));
        landIs(TWO + "knows b q;", at(2, TWO + "knows "));
        landIs(TWO + "knows sun q;", at(1, TWO + "knows "));
        landIs(TWO + "knows p q;knows q p;", at(3, TWO + "knows p q;knows q "));
        landIs("soon 0;", at(4, "soon "));
        landIs("soon 1;", 0);
        landIs("soon 9;", 0);
        landIs("soon 10;", at(4, "soon "));
        landIs("snap 0;", at(4, "snap "));
        landIs("snap 1;", 0);
        landIs("snap 99;", 0);
        landIs("snap 100;", at(4, "snap "));
        landIs("soon 1;soon x;", at(3, "soon 1;"));
        landIs("snap 1;snap 1;", at(3, "snap 1;"));
        landIs("winds 1;winds 1;", at(3, "winds 1;"));
        landIs("hour;", 1);
        landIs("walk a b;", 1);
    }

    private static void lawFaults() {
        landIs("winds;", at(1, "winds"));
        landIs("winds 9999;", 0);
        landIs("winds 10000;", at(1, "winds "));
        landIs("winds -1;", at(1, "winds "));
        landIs("winds 0-1;", 0);
        landIs("winds foo;", at(1, "winds "));
        landIs("winds at;", at(1, "winds "));
        landIs("winds goes+thumb*met-crowd;", 0);
        landIs("winds 1<2<3;", at(1, "winds 1<2"));
        landIs("winds 1=2<3;", at(1, "winds 1=2"));
        landIs("winds 1<2 and 3=4 or 5;", 0);
        landIs("winds 1 2;", at(1, "winds 1 "));
        landIs("winds 1 not 2;", at(1, "winds 1 "));
        landIs("winds 1+;", at(1, "winds 1+"));
        landIs("winds 1 and;", at(1, "winds 1 and"));
        landIs("winds (1;", at(1, "winds (1"));
        landIs("winds 1);", at(1, "winds 1"));
        landIs("winds ();", at(1, "winds ("));
        landIs("winds ((((1))));", 0);
        landIs("winds (((((1)))));", at(5, "winds ((((("));
        landIs("winds ((((((1))))));", at(5, "winds ((((("));
        landIs("winds (((((;", at(1, "winds ((((("));
        landIs("winds (((((at;", at(1, "winds ((((("));
        landIs("winds not not not not 1;", 0);
        landIs("winds not not not not not 1;", at(5, "winds not not not not not "));
        landIs("winds not not not not not not 1;", at(5, "winds not not not not not "));
        landIs("winds not(not(not(1)));", at(5, "winds not(not(not"));
        landIs("winds not(not((1)));", at(5, "winds not(not(("));
        landIs("winds not(not(1))+not((goes))<(not(not 3));", 0);
        landIs("winds ((((1+2*(3)))));", at(5, "winds ((((1+2*("));
        landIs("winds ((((1+2*3<4 and 5))));", 0);
    }

    private static void weekFaults() {
        StrangeWinding x = Check.told(TWO);
        weekIs(x, "", 0);
        weekIs(x, "walk p b;wind p q;mend q;hour;", 0);
        Check.due("lines", x.count(9), 4);
        weekIs(x, "walk p a ; walk p\nb;", 0);
        weekIs(x, "walk a b;", at(2, "walk "));
        weekIs(x, "walk p q;", at(2, "walk p "));
        weekIs(x, "walk p hour;", at(1, "walk p "));
        weekIs(x, "wind p p;", at(3, "wind p "));
        weekIs(x, "wind p a;", at(2, "wind p "));
        weekIs(x, "wind a p;", at(2, "wind "));
        weekIs(x, "mend z;", at(2, "mend "));
        weekIs(x, "mend;", at(1, "mend"));
        weekIs(x, "mend 3;", at(1, "mend "));
        weekIs(x, "hour 1;", at(1, "hour "));
        weekIs(x, "hour", at(1, "hour"));
        weekIs(x, "street c;", 1);
        for (String cut : "walk;walk p;wind;wind p;mend".split(";")) {
            weekIs(x, cut + ";", at(1, cut));
        }
        weekIs(x, "xalk p b;", 1);
        weekIs(x, "xour;", 1);
        Check.due("a fault leaves the WEEK", x.count(9), 2);
        String forty = "hour;".repeat(40);
        weekIs(x, forty, 0);
        Check.due("forty", x.count(9), 40);
        weekIs(x, forty + "hour;", at(5, forty));
        weekIs(x, forty + "walk z;", at(5, forty));
        weekIs(x, forty + "hours;", at(1, forty));
        weekIs(x, forty + ";", at(1, forty));
        weekIs(x, "", 0);
        Check.due("an empty WEEK", x.count(9), 0);
    }

    private static void weekIs(StrangeWinding x, String text, int fault) {
        Check.due("week " + text, Check.week(x, text), fault);
    }

    private static void whatALandLeaves() {
        StrangeWinding x = Check.told(TWO + "soon 2;snap 33;knows p q;winds 5;");
        Check.due("soon", x.count(2), 2);
        Check.due("snap", x.count(3), 33);
        x.hour();
        x.walk(0, 1);
        x.tale(0, 3);
        for (int mark = 0; mark < 4; mark++) {
            x.mark(mark, false);
        }
        Check.week(x, "hour;");
        Check.land(x, TWO);
        int[] due = {2, 2, 3, 60, 0, 0, 0, 17, 0, 0, 0, 0, 0, -1};
        for (int what = 0; what < due.length; what++) {
            Check.due("a new LAND, count " + what, x.count(what), due[what]);
        }
        Check.due("at home", x.person(0, 1), 0);
        Check.due("strangers again", x.person(0, 5), 2);
        Check.due("the law is gone", x.gives(0, 1), 22);
        for (int mark = 0; mark < 4; mark++) {
            Check.due("no mark", x.mark(mark, true), false);
        }
        Check.due("no undo", x.undo(), false);
        x.walk(0, 1);
        x.wind(1, 0);
        Check.land(x, "street b;street a;person q sun at a left 2;person p sun at a left 2;");
        Check.due("no lanes", x.lanes(0) + x.lanes(1), 0);
        Check.due("no windings", x.count(8) + x.wound(1, 0), 0);
        Check.land(x, TWO + "soon 2;snap 33;knows p q;winds 5;lane;");
        Check.land(x, TWO);
        Check.due("nothing of a LAND with a FAULT", x.person(0, 5) + x.count(2) + x.count(3) + x.gives(0, 1),
                2 + 3 + 60 + 22);
        Check.land(x, "");
        Check.due("an empty LAND", x.count(0) + x.count(1), 0);
        Check.due("week knows no name", Check.week(x, "mend p;"), 2 + 16 * 5);
    }

    private static void whatAFaultLeaves() {
        StrangeWinding x = Check.told(TWO + "soon 2;snap 33;winds 7;");
        x.walk(0, 1);
        x.wind(0, 1);
        x.mark(0, false);
        x.tale(1, 4);
        Check.week(x, "hour;mend p;");
        Check.due("fault", Check.land(x, "street z;person y sun at z left 4;soon 5;snap 6;winds 1;hour;"),
                1 + 16 * "street z;person y sun at z left 4;soon 5;snap 6;winds 1;".length());
        int[] due = {2, 2, 2, 33, 0, 0, 0, 24, 1, 2, 1, 2, 0};
        for (int what = 0; what < due.length; what++) {
            Check.due("a fault leaves count " + what, x.count(what), due[what]);
        }
        Check.due("the law stays", x.gives(0, 1), 7);
        Check.due("undo stays", x.undo(), true);
        Check.due("the mark stays", x.mark(0, true), true);
        Check.due("names stay", Check.week(x, "wind p q;"), 0);
    }
}
