/** Promises 14 to 23, 25, 27, 28: what is judged, foreseen, told, shared out and drawn. */
public final class ForesightTest {
    public static void main(String[] args) {
        judgedWeeks();
        stopping();
        augusts();
        plans();
        stands();
        fewestWalk();
        tales();
        talesOfSnaps();
        meetings();
        pairings();
        restsOfOffers();
        yearsByDraws();
        Check.end();
    }

    private static void judgedWeeks() {
        StrangeWinding x = Check.told("street a;street b;lane a b;person p plain at a left 9;person q plain at b left 2;"
                + "person z sun at b left 0;soon 2;snap 20;winds 9;");
        Check.due("no WEEK", x.judged(0), -1);
        Check.due("no WEEK", x.judged(1), -1);
        Check.due("no WEEK: who sits at first", x.judged(2), 4);
        Check.due("others", x.judged(3), -2);
        Check.due("others", x.judged(-1), -2);
        Check.week(x, "walk p b;wind p q;hour;walk q a;walk q b;wind p q;wind p q;hour;mend q;mend q;hour;");
        Check.due("q has wound p's in the hour, too", x.judged(0), 5);
        Check.due("none snaps", x.judged(1), -1);
        Check.week(x, "hour;hour;walk p b;wind p q;wind p q;wind q p;wind p q;mend q;hour;");
        Check.due("strangers no more", x.judged(0), 5);
        Check.due("snap", x.judged(1), -1);
        Check.week(x, "walk p b;wind p q;wind p q;mend q;hour;");
        Check.due("not snapped", x.judged(0), 3);
        Check.due("20 is not more than snap", x.judged(1), -1);
        Check.due("z", x.judged(2), 4);
        Check.week(x, "mend q;walk p b;hour;walk q a;hour;hour;hour;hour;hour;hour;hour;hour;walk q b;");
        Check.due("left out", x.judged(0), 0);
        x.walk(0, 1);
        x.hour();
        Check.due("from the beginning", x.judged(0), 0);
        Check.due("nothing is done", x.count(4), 1);
        StrangeWinding y = Check.told("street a;person p plain at a left 9;person q plain at a left 9;snap 12;winds 5;");
        Check.week(y, "mend q;hour;mend q;wind p q;hour;hour;");
        Check.due("left out", y.judged(0), 0);
        Check.due("snapped by an hour", y.judged(1), 1);
        Check.due("mended and wound, q goes on", y.judged(2), 0);
        y.hour();
        y.hour();
        Check.due("from the beginning, not from now", y.judged(1), 1);
        StrangeWinding z = Check.told("street a;person p sun at a left 3;person q sun at a left 2;");
        Check.week(z, "hour;hour;");
        Check.due("q sits", z.judged(2), 2);
        Check.week(z, "hour;hour;hour;");
        Check.due("both", z.judged(2), 3);
        Check.due("hours always can", z.judged(0), -1);
    }

    private static void stopping() {
        StrangeWinding x = Check.told("street a;person p plain at a left 9;person q sun at a left 2;person z sun at a left 0;");
        Check.due("sits now", x.stops(2), 0);
        Check.due("q", x.stops(1), 2);
        Check.due("p is wound by q at once", x.stops(0), 30);
        Check.due("others", x.stops(3), -1);
        Check.due("others", x.stops(-1), -1);
        Check.due("nothing is done", x.count(4), 0);
        StrangeWinding y = Check.told("street a;person p sun at a left 99;");
        Check.due("in 99", y.stops(0), 99);
        StrangeWinding z = Check.told("street a;person p plain at a left 99;person q plain at a left 99;person r plain at a left 99;"
                + "snap 99;soon 9;winds 40;");
        Check.due("not within 99", z.stops(0), -1);
        Check.due("not within 99", z.august(), -1);
        // Nine windings of 10 hours each are worn off with the 9 of the beginning; 7 of 13 last an hour longer.
        StrangeWinding ten = Check.told("street a;person p plain at a left 9;person q sun at a left 99;soon 9;winds 10;");
        Check.due("the 99th hour", ten.stops(0), 99);
        Check.due("the 99th hour", ten.august(), 99);
        StrangeWinding thirteen = Check.told("street a;person p plain at a left 9;person q sun at a left 99;soon 7;winds 13;");
        Check.due("the 100th hour", thirteen.stops(0), -1);
        Check.due("the 100th hour", thirteen.august(), -1);
        StrangeWinding once = Check.told("street a;person p plain at a left 1;person h hermit at a left 1;"
                + "person q plain at a left 0;winds 1;soon 1;");
        Check.due("first time he sits", once.stops(2), 0);
    }

    private static void augusts() {
        Check.due("nobody", new StrangeWinding().august(), 0);
        StrangeWinding x = Check.told("street a;street b;person p plain at a left 9;person q sun at b left 12;");
        Check.due("all", x.august(), 12);
        x.hour();
        Check.due("from now", x.august(), 11);
        StrangeWinding y = Check.told("street a;person p plain at a left 0;person q plain at a left 0;");
        Check.due("all sit", y.august(), 0);
    }

    private static void plans() {
        String text = "street a;street b;street c;lane a b;lane b c;person p plain at a left 5;person q sun at b left 50;"
                + "person r sun at c left 50;soon 1;winds 20-goes+crowd;";
        StrangeWinding x = Check.told(text);
        Check.due("one hour", x.plan(0, 1, 0), 19);
        Check.due("to b", x.plan(0, 1, 1), 1);
        Check.due("no second", x.plan(0, 1, 2), -1);
        Check.due("two hours", x.plan(0, 2, 0), 19);
        Check.due("a, then b: later gives more", x.plan(0, 2, 1), 0);
        Check.due("a, then b", x.plan(0, 2, 2), 1);
        Check.due("three hours", x.plan(0, 3, 0), 19);
        Check.due("row", x.plan(0, 3, 1) * 100 + x.plan(0, 3, 2) * 10 + x.plan(0, 3, 3), 1);
        Check.due("four hours", x.plan(0, 4, 0), 19);
        Check.due("row", x.plan(0, 4, 1) * 1000 + x.plan(0, 4, 2) * 100 + x.plan(0, 4, 3) * 10 + x.plan(0, 4, 4), 1);
        Check.due("others", x.plan(0, 0, 0), -1);
        Check.due("others", x.plan(0, 5, 0), -1);
        Check.due("others", x.plan(3, 1, 0), -1);
        Check.due("others", x.plan(-1, 1, 0), -1);
        Check.due("others", x.plan(0, 1, -1), -1);
        Check.due("nothing is done", x.person(0, 1), 0);
        StrangeWinding y = Check.told("street a;street b;lane a b;person p plain at b left 0;person q plain at a left 5;"
                + "person r sun at a left 9;");
        Check.due("who sits stays", y.plan(0, 3, 0), 0);
        Check.due("where", y.plan(0, 3, 1), 1);
        StrangeWinding z = Check.told("street a;street b;lane a b;person p plain at b left 1;person q sun at a left 9;");
        Check.due("too late in the second hour", z.plan(0, 2, 1), 0);
        Check.due("hours", z.plan(0, 2, 0), 28);
        Check.due("of equal ones the first row", z.plan(0, 2, 2), 0);
    }

    private static void stands() {
        StrangeWinding x = Check.told("street a;street b;street c;street d;lane b a;lane b c;"
                + "person p plain at b left 9;person q plain at c left 9;person r sun at c left 9;"
                + "person s plain at d left 9;person t hermit at a left 9;person u plain at a left 0;");
        Check.due("two at c", x.stand(0), 2);
        Check.due("one at b, one at c: the first", x.stand(1), 1);
        Check.due("d has no lane", x.stand(3), 3);
        Check.due("of equal ones the first: a with none", x.stand(4), 1);
        Check.due("who sits", x.stand(5), -1);
        Check.due("others", x.stand(6), -1);
        Check.due("others", x.stand(-1), -1);
        StrangeWinding y = Check.told("street a;street b;lane a b;person p plain at b left 9;person q plain at a left 9;knows p q;");
        Check.due("nobody anywhere: the first", y.stand(0), 0);
    }

    private static void fewestWalk() {
        StrangeWinding x = Check.told("street a;street b;lane a b;person p plain at a left 3;person q plain at b left 30;"
                + "person r sun at b left 40;");
        Check.due("nobody must", x.fewest(2, 0), 0);
        Check.due("nowhere", x.fewest(2, 1), -1);
        Check.due("the least set", x.fewest(3, 0), 1);
        Check.due("to b", x.fewest(3, 1), 1);
        Check.due("others", x.fewest(0, 0), -2);
        Check.due("others", x.fewest(25, 0), -2);
        Check.due("others", x.fewest(1, 2), -2);
        Check.due("others", x.fewest(1, -1), -2);
        Check.due("nothing is done", x.person(0, 1), 0);
        StrangeWinding y = Check.told("street a;street b;street c;lane a b;lane a c;person p sun at a left 40;"
                + "person q hermit at b left 2;person r hermit at c left 9;");
        Check.due("the sun to b", y.fewest(5, 0), 1);
        Check.due("the sun to b", y.fewest(5, 1), 1);
        Check.due("both hermits to the sun", y.fewest(20, 0), 6);
        Check.due("at a", y.fewest(20, 1), 0);
        Check.due("strangers no more", y.fewest(24, 0), 6);
        StrangeWinding z = Check.told("street a;street b;street c;lane a b;lane b c;person p plain at a left 1;"
                + "person q plain at c left 1;");
        Check.due("both to b", z.fewest(1, 0), 3);
        Check.due("both to b", z.fewest(1, 1), 1);
        StrangeWinding s = Check.told("street a;street b;lane a b;person p plain at a left 0;person q plain at b left 30;");
        Check.due("who sits can't, another comes", s.fewest(1, 0), 2);
        Check.due("to a", s.fewest(1, 1), 0);
        StrangeWinding late = Check.told("street a;person p plain at a left 5;person q hermit at a left 9;"
                + "person r plain at a left 0;winds 2;soon 1;");
        Check.due("who sits now may go behind", late.fewest(1, 0), 0);
        Check.due("by none", late.fewest(2, 0), -2);
    }

    private static void tales() {
        StrangeWinding x = Check.told("street a;street b;lane a b;person p plain at a left 4;person q plain at a left 9;"
                + "person r deaf at a left 9;person s plain at a left 9;person h hermit at a left 9;person z plain at a left 0;"
                + "winds 7;snap 21;");
        Check.due("all sets", x.sets(0, 0), 8);
        Check.due("in all", x.sets(0, 1), 0);
        Check.due("in some", x.sets(0, 2), 14);
        Check.due("any parts: the first", x.ask(0), 1);
        Check.due("ask looks for itself", x.sets(4, 0) == 16 && x.ask(1) == 0, true);
        Check.due("others, though there are sets", x.sets(0, 3), -1);
        Check.due("others, though there are sets", x.sets(0, -1), -1);
        Check.due("told", x.tale(0, 11), true);
        Check.due("q or s", x.sets(0, 0), 2);
        Check.due("in all", x.sets(0, 1), 0);
        Check.due("in some", x.sets(0, 2), 10);
        Check.due("ask for q", x.ask(0), 1);
        Check.due("in place of the elder", x.tale(0, 21), true);
        Check.due("all three", x.sets(0, 0), 1);
        Check.due("in all", x.sets(0, 1), 14);
        Check.due("none parts", x.ask(0), -1);
        Check.due("one TALE", x.count(10), 1);
        Check.due("nobody", x.tale(0, 4) && x.sets(0, 0) == 1, true);
        Check.due("in some", x.sets(0, 2), 0);
        Check.due("none such", x.tale(0, 5) && x.sets(0, 0) == 0, true);
        Check.due("no set", x.sets(0, 1), -1);
        Check.due("no set", x.sets(0, 2), -1);
        Check.due("no set", x.ask(0), -1);
        Check.due("others", x.sets(6, 0), -1);
        Check.due("others", x.sets(-1, 0), -1);
        Check.due("others", x.ask(6), -1);
        Check.due("others", x.tale(6, 1), false);
        Check.due("others", x.tale(-1, 1), false);
        Check.due("others", x.tale(0, 100), false);
        Check.due("others", x.tale(0, -1), false);
        Check.due("edges", x.tale(5, 99) && x.tale(4, 0), true);
        Check.due("TALES", x.count(10), 3);
        Check.due("left as it was", x.person(0, 2), 4);
        x.tale(0, 11);
        x.walk(1, 1);
        Check.due("as it is now", x.sets(0, 1), 8);
    }

    private static void talesOfSnaps() {
        StrangeWinding x = Check.told("street a;person p sun at a left 4;person q plain at a left 9;"
                + "person r plain at a left 9;person s plain at a left 9;winds 10-goes+5;snap 12;");
        Check.due("whoever he is", x.sets(0, 0), 8);
        x.tale(0, 0);
        Check.due("snapped by any", x.sets(0, 0), 7);
        Check.due("in all", x.sets(0, 1), 0);
        Check.due("in some", x.sets(0, 2), 14);
        Check.due("4 of 7 have each", x.ask(0), 1);
        StrangeWinding y = Check.told("street a;person p plain at a left 4;person q plain at a left 9;"
                + "person r deaf at a left 8;person s plain at a left 9;winds goes*(thumb=9)+crowd;snap 19;knows p s;");
        y.tale(0, 14);
        Check.due("by numbers, at the hours it had by then", y.sets(0, 0), 0);
        y.tale(0, 11);
        Check.due("4 + 6, and 1 by the deaf one", y.sets(0, 1), 6);
        y.tale(0, 10);
        Check.due("4 + 6", y.sets(0, 1), 2);
        StrangeWinding z = Check.told("street a;person p plain at a left 9;person q plain at a left 9;winds 9;snap 10;");
        z.wind(0, 1);
        z.tale(1, 0);
        Check.due("snapped stays so", z.sets(1, 0), 2);
        z.tale(1, 9);
        Check.due("snapped stays so", z.sets(1, 0), 0);
    }

    private static void meetings() {
        StrangeWinding x = Check.told("street a;street b;street c;lane a b;lane b c;person p plain at a left 0;"
                + "person q sun at c left 9;person r plain at c left 1;");
        Check.due("one hour", x.meet(0, 1, 1), 250000);
        Check.due("two hours, cut", x.meet(0, 1, 2), 479164);
        Check.due("alike", x.meet(1, 0, 2), 479164);
        Check.due("the same street", x.meet(1, 2, 1), -1);
        Check.due("the same", x.meet(1, 1, 1), -1);
        Check.due("others", x.meet(3, 1, 1), -1);
        Check.due("others", x.meet(1, -1, 1), -1);
        Check.due("others", x.meet(0, 1, 0), -1);
        Check.due("others", x.meet(0, 1, 7), -1);
        StrangeWinding y = Check.told("street a;street b;person p plain at a left 9;person q plain at b left 9;");
        Check.due("never", y.meet(0, 1, 6), 0);
    }

    private static void pairings() {
        StrangeWinding x = Check.told("street a;street b;person p hermit at a left 0;person q sun at a left 0;"
                + "person r plain at a left 9;person s plain at b left 9;person t plain at b left 9;");
        Check.due("one at a, one at b", x.pairs(-1), 2);
        int[] due = {0, 2, 1, 4, 3};
        for (int p = 0; p < 5; p++) {
            Check.due("with " + p, x.pairs(p), due[p]);
        }
        Check.due("others", x.pairs(5), -2);
        Check.due("others", x.pairs(-2), -2);
        StrangeWinding y = Check.told("street a;person p plain at a left 9;person q plain at a left 9;"
                + "person r plain at a left 9;person s plain at a left 9;knows p q;knows r s;");
        Check.due("two", y.pairs(-1), 2);
        int[] dueY = {2, 3, 0, 1};
        for (int p = 0; p < 4; p++) {
            Check.due("with " + p, y.pairs(p), dueY[p]);
        }
        StrangeWinding z = Check.told("street a;person p plain at a left 9;person q plain at a left 9;"
                + "person r plain at a left 9;person s plain at a left 9;knows q r;knows q s;knows r s;");
        Check.due("a star", z.pairs(-1), 1);
        Check.due("p with q: his row must be no more", z.pairs(0), 1);
        Check.due("nobody", new StrangeWinding().pairs(0), -2);
    }

    private static void restsOfOffers() {
        StrangeWinding x = new StrangeWinding();
        for (int both = 0; both <= 9; both++) {
            for (int loses = 0; loses <= 9; loses++) {
                for (int gets = 0; gets <= 9; gets++) {
                    restsAre(x, both, loses, gets);
                }
            }
        }
        Check.due("both", Check.rests(x, 10, 0, 0, -1), Check.THROWS);
        Check.due("both", Check.rests(x, -1, 0, 0, -1), Check.THROWS);
        Check.due("loses", Check.rests(x, 0, 10, 0, -1), Check.THROWS);
        Check.due("loses", Check.rests(x, 0, -1, 0, -1), Check.THROWS);
        Check.due("gets", Check.rests(x, 0, 0, 10, -1), Check.THROWS);
        Check.due("gets", Check.rests(x, 0, 0, -1, -1), Check.THROWS);
        Check.due("what", Check.rests(x, 0, 0, 0, -2), Check.THROWS);
    }

    private static void restsAre(StrangeWinding x, int both, int loses, int gets) {
        // To walk on is best against who walks on; alone one offers only if that costs nothing.
        int[] due = new int[4];
        int n = 0;
        due[n++] = 0;
        if (loses == 0 && gets >= both) {
            due[n++] = 1;
            due[n++] = 2;
        }
        if (both >= gets) {
            due[n++] = 3;
        }
        Check.due("rests " + both + " " + loses + " " + gets, Check.rests(x, both, loses, gets, -1), n);
        for (int i = 0; i <= n; i++) {
            Check.due("rests " + both + " " + loses + " " + gets + " the " + i + "-th",
                    Check.rests(x, both, loses, gets, i), i < n ? due[i] : Check.THROWS);
        }
    }

    private static void yearsByDraws() {
        StrangeWinding x = Check.told("street a;person p plain at a left 9;person q plain at a left 9;snap 10;soon 9;winds 9;");
        Check.due("others", x.years(-1, 1, 0), -1);
        Check.due("others", x.years(10000, 1, 0), -1);
        Check.due("others", x.years(0, 0, 0), -1);
        Check.due("others", x.years(0, 100, 0), -1);
        Check.due("others", x.years(0, 1, 3), -1);
        Check.due("others", x.years(0, 1, -1), -1);
        Check.due("one hour: p winds q, which snaps", x.years(1, 1, 0), 1);
        Check.due("snapped", x.years(1, 1, 1), 1);
        Check.due("q sits, if not mended", x.years(1, 1, 2), mendedFirst(1) ? 0 : 2);
        for (int seed = 0; seed < 60; seed++) {
            Check.due("seed " + seed, x.years(seed, 1, 2), mendedFirst(seed) ? 0 : 2);
        }
        walksByDraws();
        Check.due("all is as ahead", x.count(4) + x.count(8) + x.count(6) + x.count(11), 0);
        x.hour();
        Check.due("those of the years alone", x.years(1, 1, 1), 0);
        Check.due("those of the years alone", x.years(1, 1, 0), 0);
    }

    private static void walksByDraws() {
        StrangeWinding x = Check.told("street a;street b;street c;lane a b;lane b c;person p hermit at a left 9;"
                + "person q sun at b left 9;soon 1;winds 4;");
        for (int seed = 0; seed < 60; seed++) {
            long g = (seed * 1103515245L + 12345L) % 2147483648L;
            long who = g / 65536 % 2;
            g = (g * 1103515245L + 12345L) % 2147483648L;
            long where = g / 65536 % 3;
            boolean met = who == 0 && where == 1 || who == 1 && where == 0;
            Check.due("met by the drawn walk, seed " + seed, x.years(seed, 1, 0), met ? 1 : 0);
        }
    }

    /** Two draws for the walk, the third below 9. */
    private static boolean mendedFirst(int seed) {
        long g = seed;
        for (int i = 0; i < 3; i++) {
            g = (g * 1103515245L + 12345L) % 2147483648L;
        }
        return g / 65536 % 9 == 0;
    }
}
