/** Promises 15 to 23, 25, 27, 28 at their edges: for each sentence that names a limit, a test of its own. */
public final class EdgeForesightTest {
    private static final int[] WILD = {Integer.MIN_VALUE, Integer.MIN_VALUE + 1, -100, -3, -2, -1, 100, 10000, 1 << 30,
        Integer.MAX_VALUE - 1, Integer.MAX_VALUE};
    private static final String CLIQUE = "street a;street b;street c;street d;street e;lane a b;lane a c;lane a d;lane a e;"
            + "lane b c;lane b d;lane b e;lane c d;lane c e;lane d e;";
    private static final String ROW = "street a;street b;street c;lane a b;lane b c;";

    public static void main(String[] args) {
        stopping();
        planning();
        standing();
        walking();
        telling();
        meeting();
        pairing();
        offering();
        drawing();
        Check.end();
    }

    private static void stopping() {
        stopsFromNone();
        stopsWithinNinetyNine();
        stopsBySnapping();
        stopsIfNothingElseIsDone();
        augustOfNobody();
        augustOfAll();
    }

    private static void planning() {
        oneToFourHours();
        whatOfAPlan();
        theFirstRow();
        whoSitsStays();
        whoStopsStays();
        mostHoursLeft();
    }

    private static void standing() {
        standOfWhoSits();
        standCounts();
        standOfEqualOnes();
        standWhereHeCould();
        standByTheFirst();
    }

    private static void walking() {
        oneToTwentyFourHours();
        whatOfFewest();
        nobodyWalks();
        byNone();
        eachCan();
        theFirstStreet();
        theLeastSet();
        behindSoManyHours();
    }

    private static void telling() {
        hoursOfATale();
        laterInPlaceOfElder();
        setsWithoutATale();
        whoMayHaveWound();
        setsOfATale();
        noSet();
        onceSnapped();
        asItIsNow();
        asksThatPart();
        asksThatDoNot();
        asksForTheFirstAndTheLast();
    }

    private static void meeting() {
        oneToSixHours();
        notInTheSameStreet();
        whatIsCut();
        neverMeet();
        whetherTheySit();
    }

    private static void pairing() {
        pairsOfSix();
        pairsOfFive();
        pairsInOneStreet();
        pairsOfWhomever();
        pairsOfOthers();
    }

    private static void offering() {
        zeroToNine();
        restsByNumber();
        restsOfEqualGains();
    }

    private static void drawing() {
        seedsAndHours();
        drawsGoRound();
        allIsAsAhead();
        mendedByADraw();
    }

    // "STOPS: in how many HOURS (0 to 99) one SITS": 0
    private static void stopsFromNone() {
        StrangeWinding x = Check.told("street a;person p plain at a left 0;person q plain at a left 50;winds 9;snap 20;soon 9;"
                + "person r plain at a left 19;knows q r;");
        Check.due("who sits now, though he is wound in the hour", x.stops(0), 0);
        x.wind(0, 2);
        Check.due("q winds p by hand", x.wind(1, 0), 9);
        x.wind(0, 2);
        Check.due("who is snapped now", x.count(6) == 4 ? x.stops(2) : -9, 0);
        Check.due("others", x.stops(3), -1);
        for (int wild : WILD) {
            Check.due("others", x.stops(wild), -1);
        }
    }

    // "not within 99"
    private static void stopsWithinNinetyNine() {
        for (int left = 0; left <= 99; left++) {
            StrangeWinding x = Check.told("street a;person p sun at a left " + left + ";");
            Check.due("alone", x.stops(0), left);
            Check.due("all", x.august(), left);
        }
        // p has 9 hours, and is wound seven times by 13, or nine times by 10, while q, a sun, goes on.
        String two = "street a;person p plain at a left 9;person q sun at a left 98;";
        StrangeWinding within = Check.told(two + "soon 9;winds 10;");
        Check.due("in 99", within.stops(0), 99);
        Check.due("all in 99", within.august(), 99);
        StrangeWinding beyond = Check.told(two + "soon 7;winds 13;");
        Check.due("in 100", beyond.stops(0), -1);
        Check.due("all in 100", beyond.august(), -1);
        Check.due("q in 98", beyond.stops(1), 98);
        beyond.hour();
        Check.due("an hour later in 99", beyond.stops(0), 99);
        Check.due("an hour later in 99", beyond.august(), 99);
    }

    private static void stopsBySnapping() {
        StrangeWinding x = Check.told("street a;street b;lane a b;person p sun at a left 50;person q plain at a left 12;"
                + "winds 40;snap 30;");
        Check.due("wound to more than snap in the fourth hour", x.stops(1), 4);
        x.walk(0, 1);
        Check.due("left alone", x.stops(1), 12);
    }

    // "if nothing else is done"; "(All from how it is now.)"
    private static void stopsIfNothingElseIsDone() {
        StrangeWinding x = Check.told(ROW + "person p sun at a left 7;person q sun at c left 9;");
        for (int i = 0; i <= 7; i++) {
            Check.due("p", x.stops(0), 7 - i);
            Check.due("q", x.stops(1), 9 - i);
            Check.due("august", x.august(), 9 - i);
            x.hour();
        }
        x.undo();
        Check.due("undone", x.stops(0) * 10 + x.stops(1), 2);
    }

    // "AUGUST (0: nobody)"
    private static void augustOfNobody() {
        Check.due("nobody", new StrangeWinding().august(), 0);
        Check.due("nobody in streets", Check.told(CLIQUE).august(), 0);
        StrangeWinding x = new StrangeWinding();
        x.hour();
        Check.due("nobody later", x.august(), 0);
    }

    // "in how many all SIT (99 at most)"
    private static void augustOfAll() {
        Check.due("all sit now", Check.told("street a;person p plain at a left 0;person q plain at a left 0;").august(), 0);
        Check.due("one does not", Check.told("street a;person p sun at a left 0;person q sun at a left 1;").august(), 1);
        StrangeWinding six = Check.told("street a;person p sun at a left 1;person q sun at a left 2;person r sun at a left 3;"
                + "person s sun at a left 4;person t sun at a left 5;person u sun at a left 99;");
        Check.due("the last of six", six.august(), 99);
    }

    // "PLAN for one and so many HOURS (1 to 4)"
    private static void oneToFourHours() {
        StrangeWinding x = Check.told(ROW + "person p sun at a left 50;");
        for (int hours = -1; hours <= 6; hours++) {
            Check.due("hours " + hours, x.plan(0, hours, 0), hours >= 1 && hours <= 4 ? 50 - hours : -1);
        }
        for (int wild : WILD) {
            Check.due("hours", x.plan(0, wild, 0), -1);
            Check.due("person", x.plan(wild, 1, 0), -1);
            Check.due("what", x.plan(0, 4, wild), -1);
        }
        Check.due("nobody", x.plan(1, 1, 0), -1);
    }

    // "what 0: hours left, 1 + i: where ahead of the i-th HOUR"
    private static void whatOfAPlan() {
        StrangeWinding x = Check.told(ROW + "person p sun at c left 50;");
        int[] row = {1, 0, 0, 0};
        for (int hours = 1; hours <= 4; hours++) {
            Check.due("hours left", x.plan(0, hours, 0), 50 - hours);
            for (int i = 0; i < hours; i++) {
                Check.due("where ahead of " + i, x.plan(0, hours, 1 + i), row[i]);
            }
            Check.due("none ahead of " + hours, x.plan(0, hours, 1 + hours), -1);
            Check.due("others", x.plan(0, hours, -1), -1);
        }
    }

    // "of equal ones the first row (of STREETS, by numbers, the one he is in for none)"
    private static void theFirstRow() {
        StrangeWinding clique = Check.told(CLIQUE + "person p sun at e left 9;");
        StrangeWinding alone = Check.told("street a;street b;street c;lane a c;person p sun at b left 9;");
        for (int i = 1; i <= 4; i++) {
            Check.due("to the first, and stay", clique.plan(0, 4, i), 0);
            Check.due("no lane: stay", alone.plan(0, 4, i), 1);
        }
        StrangeWinding x = Check.told("street a;street b;street c;street d;lane d b;lane b c;person p sun at c left 9;");
        Check.due("b, then b again: a is not by a lane", x.plan(0, 2, 1) * 10 + x.plan(0, 2, 2), 11);
    }

    // He WALKS "if it can be".
    private static void whoSitsStays() {
        StrangeWinding x = Check.told(CLIQUE + "person p plain at e left 0;person q plain at a left 9;");
        Check.due("hours left", x.plan(0, 4, 0), 0);
        for (int i = 1; i <= 4; i++) {
            Check.due("where he is", x.plan(0, 4, i), 4);
        }
    }

    private static void whoStopsStays() {
        StrangeWinding x = Check.told(CLIQUE + "person p plain at e left 2;person q sun at b left 50;winds 5;soon 1;");
        Check.due("wound in the second hour, ere he stops", x.plan(0, 2, 0), 5);
        Check.due("a, then b", x.plan(0, 2, 1) * 10 + x.plan(0, 2, 2), 1);
        Check.due("in the second of three, too: later he sits", x.plan(0, 3, 0), 4);
        Check.due("a, b, a", x.plan(0, 3, 1) * 100 + x.plan(0, 3, 2) * 10 + x.plan(0, 3, 3), 10);
    }

    // "the most hours left behind all"
    private static void mostHoursLeft() {
        StrangeWinding x = Check.told(CLIQUE + "person p plain at a left 5;person q sun at b left 50;person r deaf at c left 50;"
                + "person s plain at d left 50;person t plain at e left 50;knows p s;winds 20+(thumb=50)*5-goes;snap 24;");
        Check.due("by q: 5 + 20 is more than snap; by r half of that", x.plan(0, 1, 0), 14);
        Check.due("to c", x.plan(0, 1, 1), 2);
        Check.due("two hours: by q, when thumb is not 50", x.plan(0, 2, 0), 19);
        Check.due("a, then b", x.plan(0, 2, 1) * 10 + x.plan(0, 2, 2), 1);
    }

    // "NONE: others, one who SITS"
    private static void standOfWhoSits() {
        StrangeWinding x = Check.told(CLIQUE + "person p plain at e left 0;person q plain at e left 1;snap 1;winds 1;");
        Check.due("sits", x.stand(0), -1);
        Check.due("does not", x.stand(1), 0);
        x.hour();
        Check.due("sits by now", x.stand(1), -1);
        Check.due("others", x.stand(2), -1);
        for (int wild : WILD) {
            Check.due("others", x.stand(wild), -1);
        }
        StrangeWinding y = Check.told(CLIQUE + "person p plain at e left 2;person q plain at e left 2;snap 1;winds 0;");
        y.wind(0, 1);
        Check.due("snapped", y.stand(1), -1);
    }

    // "in which most others are STRANGERS to him, who are no hermits and do not SIT"
    private static void standCounts() {
        String kinds = "street a;street b;lane a b;person p plain at a left 9;person z plain at a left 9;";
        Check.due("a plain one", Check.told(kinds + "knows p z;person q plain at b left 1;").stand(0), 1);
        Check.due("a deaf one", Check.told(kinds + "knows p z;person q deaf at b left 1;").stand(0), 1);
        Check.due("a sun", Check.told(kinds + "knows p z;person q sun at b left 1;").stand(0), 1);
        Check.due("no hermit", Check.told(kinds + "knows p z;person q hermit at b left 1;").stand(0), 0);
        Check.due("none who sits", Check.told(kinds + "knows p z;person q plain at b left 0;").stand(0), 0);
        Check.due("none he knows", Check.told(kinds + "knows p z;person q plain at b left 1;knows q p;").stand(0), 0);
        Check.due("not himself", Check.told(kinds + "person q plain at b left 1;person r sun at b left 1;").stand(0), 1);
        StrangeWinding x = Check.told("street a;street b;lane a b;person p plain at a left 9;person q sun at b left 1;soon 1;"
                + "winds 0;");
        x.walk(0, 1);
        Check.due("a stranger at b", x.stand(0), 1);
        x.wind(1, 0);
        Check.due("a stranger no more", x.stand(0), 0);
    }

    // "of equal ones the first"
    private static void standOfEqualOnes() {
        Check.due("none anywhere", Check.told(CLIQUE + "person p plain at e left 9;").stand(0), 0);
        String each = CLIQUE + "person p plain at e left 9;person q plain at b left 9;person r plain at d left 9;";
        Check.due("b as d", Check.told(each).stand(0), 1);
        Check.due("d has one more", Check.told(each + "person s plain at d left 9;").stand(0), 3);
        Check.due("his own has as many", Check.told(each + "person s plain at e left 9;knows p q;").stand(0), 3);
    }

    // "most others": PERSON 0 is one of them, and the last one
    private static void standByTheFirst() {
        StrangeWinding x = Check.told("street a;street b;lane a b;person p plain at b left 9;person q plain at a left 9;");
        Check.due("p is at b", x.stand(1), 1);
        x.walk(0, 0);
        Check.due("p is at a", x.stand(1), 0);
        StrangeWinding y = Check.told(CLIQUE + "person pa plain at a left 9;person pb plain at a left 9;"
                + "person pc plain at a left 9;person pd plain at a left 9;person pe plain at a left 9;"
                + "person pf plain at e left 9;knows pa pb;knows pa pc;knows pa pd;knows pa pe;");
        Check.due("the sixth is at e", y.stand(0), 4);
    }

    // "the STREET to which he could WALK now, or stay in"
    private static void standWhereHeCould() {
        StrangeWinding x = Check.told(ROW + "street d;person p plain at a left 9;person q plain at c left 9;"
                + "person r plain at d left 9;");
        Check.due("c is two lanes away", x.stand(0), 0);
        x.walk(0, 1);
        Check.due("c is by a lane", x.stand(0), 2);
        Check.due("no lane: stay", x.stand(2), 3);
    }

    // "behind so many HOURS (1 to 24)"
    private static void oneToTwentyFourHours() {
        // Nobody would SIT behind 25 hours: those are refused for their number alone.
        StrangeWinding x = Check.told("street a;person p sun at a left 99;");
        for (int hours = -1; hours <= 26; hours++) {
            boolean within = hours >= 1 && hours <= 24;
            Check.due("hours " + hours, x.fewest(hours, 0), within ? 0 : -2);
            Check.due("hours " + hours, x.fewest(hours, 1), within ? -1 : -2);
        }
        StrangeWinding y = Check.told("street a;person p sun at a left 24;");
        Check.due("23 hours", y.fewest(23, 0), 0);
        Check.due("24 hours", y.fewest(24, 0), -2);
        for (int wild : WILD) {
            Check.due("hours", x.fewest(wild, 0), -2);
            Check.due("what", x.fewest(1, wild == -1 ? 2 : wild), -2);
        }
    }

    // "what 0: who, as bits, 1: where"; "-2: others"
    private static void whatOfFewest() {
        StrangeWinding x = Check.told("street a;street b;lane a b;person p plain at a left 1;person q sun at b left 30;");
        int[] due = {-2, 1, 1, -2};
        for (int what = -1; what <= 2; what++) {
            Check.due("what " + what, x.fewest(1, what), due[what + 1]);
        }
    }

    // "NONE: nobody walks"
    private static void nobodyWalks() {
        StrangeWinding x = Check.told(CLIQUE + "person p sun at a left 2;person q sun at b left 2;");
        Check.due("who", x.fewest(1, 0), 0);
        Check.due("where", x.fewest(1, 1), -1);
    }

    // "-2: others, by none"
    private static void byNone() {
        StrangeWinding x = Check.told(CLIQUE + "person p sun at a left 2;person q sun at b left 9;");
        Check.due("who", x.fewest(2, 0), -2);
        Check.due("where", x.fewest(2, 1), -2);
        StrangeWinding y = Check.told(CLIQUE + "person p plain at a left 0;");
        Check.due("who sits alone", y.fewest(1, 0), -2);
    }

    // "people who WALK now, all to one STREET (each can)"
    private static void eachCan() {
        String two = "person p plain at a left 1;person q plain at c left 1;";
        StrangeWinding x = Check.told(ROW + two);
        Check.due("both to b", x.fewest(1, 0) * 10 + x.fewest(1, 1), 31);
        StrangeWinding y = Check.told("street a;street b;street c;lane a b;" + two);
        Check.due("no lane from c", y.fewest(1, 0), -2);
        StrangeWinding z = Check.told(ROW + "person p plain at a left 0;person q plain at c left 1;");
        Check.due("who sits can't", z.fewest(1, 0), -2);
        StrangeWinding near = Check.told(ROW + "lane c a;" + two);
        Check.due("p alone, to c", near.fewest(1, 0) * 10 + near.fewest(1, 1), 12);
        StrangeWinding here = Check.told(ROW + "person p plain at a left 1;person q plain at a left 1;");
        Check.due("nobody must: a walk is to another STREET", here.fewest(1, 0), 0);
    }

    // "then the first STREET"
    private static void theFirstStreet() {
        StrangeWinding x = Check.told(CLIQUE + "person p plain at c left 1;person q sun at b left 30;person r sun at d left 30;"
                + "person s sun at e left 30;");
        Check.due("p", x.fewest(1, 0), 1);
        Check.due("to b, not to d or e", x.fewest(1, 1), 1);
    }

    // "the fewest; of equal ones the least set"
    private static void theLeastSet() {
        StrangeWinding x = Check.told("street a;street b;lane a b;person p sun at a left 30;person q plain at b left 1;");
        Check.due("p comes, as q might", x.fewest(1, 0) * 10 + x.fewest(1, 1), 11);
        StrangeWinding y = Check.told("street a;street b;lane a b;person q plain at b left 1;person p sun at a left 30;");
        Check.due("q goes, as p might", y.fewest(1, 0) * 10 + y.fewest(1, 1), 10);
        // p sits, and is wound by who comes only if another one comes, too.
        StrangeWinding z = Check.told("street a;street b;street c;lane a c;lane b c;person p plain at c left 0;"
                + "person q sun at a left 30;person r sun at b left 30;person s sun at a left 30;winds 1*(crowd=1);soon 1;");
        Check.due("q and r: 6, not q and s: 10, nor r and s: 12", z.fewest(1, 0), 6);
        Check.due("to c", z.fewest(1, 1), 2);
        // t needs 5 hours, and snaps by 6; p gives 1, q 2, r 3, s 4.
        StrangeWinding w = Check.told("street a;street c;lane a c;person p sun at a left 31;person q sun at a left 32;"
                + "person r sun at a left 33;person s sun at a left 34;person t plain at c left 0;"
                + "soon 1;winds thumb-30;snap 5;");
        Check.due("q and r: 6, not p and s: 9", w.fewest(4, 0), 6);
        Check.due("to c", w.fewest(4, 1), 1);
    }

    // "so that nobody SITS behind so many HOURS": not meanwhile
    private static void behindSoManyHours() {
        StrangeWinding x = Check.told("street a;person p plain at a left 0;person q sun at a left 30;winds 1;soon 2;");
        Check.due("p is wound, and sits again behind each hour", x.fewest(1, 0), -2);
        StrangeWinding y = Check.told("street a;person p plain at a left 0;person q sun at a left 30;winds 2;soon 2;");
        Check.due("who sits now goes behind an hour", y.fewest(1, 0), 0);
        Check.due("behind three", y.fewest(3, 0), 0);
        Check.due("behind four no more", y.fewest(4, 0), -2);
    }

    // "so many (0 to 99) hours left"
    private static void hoursOfATale() {
        StrangeWinding x = Check.told("street a;person p plain at a left 4;person q plain at a left 4;");
        for (int left = -2; left <= 101; left++) {
            Check.due("left " + left, x.tale(0, left), left >= 0 && left <= 99);
        }
        for (int wild : WILD) {
            Check.due("left", x.tale(0, wild), false);
            Check.due("person", x.tale(wild, 1), false);
        }
        Check.due("nobody", x.tale(2, 1), false);
        Check.due("one TALE", x.count(10), 1);
        StrangeWinding y = Check.told("street a;person p plain at a left 59;person q plain at a left 4;winds 40;snap 99;");
        y.tale(0, 99);
        Check.due("wound to 99", y.sets(0, 1), 2);
        y.tale(0, 59);
        Check.due("wound by nobody", y.sets(0, 2), 0);
    }

    // "a later one of the same PERSON in place of the elder"
    private static void laterInPlaceOfElder() {
        StrangeWinding x = Check.told("street a;person p plain at a left 4;person q plain at a left 4;winds 3;");
        Check.due("no TALE", x.count(10), 0);
        Check.due("told", x.tale(0, 4), true);
        Check.due("nobody did", x.sets(0, 0) * 10 + x.sets(0, 2), 10);
        Check.due("told", x.tale(0, 7), true);
        Check.due("q did", x.sets(0, 0) * 10 + x.sets(0, 2), 12);
        Check.due("one TALE", x.count(10), 1);
        Check.due("of another one", x.tale(1, 0), true);
        Check.due("two TALES", x.count(10), 2);
        Check.due("the first one's stays", x.sets(0, 1), 2);
        Check.due("refused", x.tale(0, 100), false);
        Check.due("that stays, too", x.sets(0, 1), 2);
    }

    // "(all such without a TALE)"
    private static void setsWithoutATale() {
        String text = "street a;";
        for (int people = 1; people <= 6; people++) {
            text += "person p" + "abcdef".charAt(people - 1) + " plain at a left 9;";
            StrangeWinding x = Check.told(text);
            Check.due("sets", x.sets(0, 0), 1 << people - 1);
            Check.due("in all", x.sets(0, 1), 0);
            Check.due("in some", x.sets(0, 2), (1 << people) - 2);
            Check.due("of the last one, in some", x.sets(people - 1, 2), (1 << people - 1) - 1);
            Check.due("ask", x.ask(0), people == 1 ? -1 : 1);
            Check.due("others", x.sets(people, 0), -1);
            Check.due("others", x.sets(0, 3), -1);
            Check.due("others", x.sets(0, -1), -1);
        }
        StrangeWinding x = Check.told(text);
        for (int wild : WILD) {
            Check.due("person", x.sets(wild, 0), -1);
            Check.due("what", x.sets(0, wild), -1);
            Check.due("ask", x.ask(wild), -1);
        }
    }

    // "by some others in his STREET, STRANGERS to him now, no hermits, not SITTING"; "whoever he is"
    private static void whoMayHaveWound() {
        StrangeWinding x = Check.told("street a;street b;lane a b;person p sun at a left 9;person h hermit at a left 9;"
                + "person s sun at a left 9;person z plain at a left 0;person k deaf at a left 9;person f plain at b left 9;"
                + "knows k h;winds 0;soon 1;");
        Check.due("p: s, k", x.sets(0, 2), 20);
        Check.due("h: p, s", x.sets(1, 2), 5);
        Check.due("s: p, k", x.sets(2, 2), 17);
        Check.due("z, who sits: p, s, k", x.sets(3, 2), 21);
        Check.due("k: p, s", x.sets(4, 2), 5);
        Check.due("f: nobody", x.sets(5, 0) * 10 + x.sets(5, 2), 10);
        x.walk(5, 0);
        Check.due("f has come", x.sets(0, 2), 52);
        x.wind(5, 1);
        Check.due("f knows h by now", x.sets(1, 2), 5);
        Check.due("f is a stranger to p yet", x.sets(0, 2), 52);
    }

    // "SETS of others by which it is so: how many; those in all, in some (bits)"
    private static void setsOfATale() {
        StrangeWinding x = Check.told("street a;person p plain at a left 4;person q plain at a left 1;person r plain at a left 2;"
                + "person s plain at a left 3;person t plain at a left 6;winds thumb;");
        int[] sets = new int[20];
        for (int set = 0; set < 16; set++) {
            sets[(set & 1) + 2 * (set >> 1 & 1) + 3 * (set >> 2 & 1) + 6 * (set >> 3)]++;
        }
        for (int more = 0; more <= 13; more++) {
            x.tale(0, 4 + more);
            Check.due("sets of " + more + " more", x.sets(0, 0), more < 13 ? sets[more] : 0);
        }
        x.tale(0, 13);
        Check.due("9 is 1 + 2 + 6, or 3 + 6", x.sets(0, 0) * 10000 + x.sets(0, 1) * 100 + x.sets(0, 2), 21630);
        x.tale(0, 15);
        Check.due("11 is 2 + 3 + 6", x.sets(0, 0) * 10000 + x.sets(0, 1) * 100 + x.sets(0, 2), 12828);
    }

    // "NONE: others, no set (but 0)"
    private static void noSet() {
        StrangeWinding x = Check.told("street a;person p plain at a left 4;person q plain at a left 4;winds 3;");
        x.tale(0, 5);
        Check.due("how many", x.sets(0, 0), 0);
        Check.due("in all", x.sets(0, 1), -1);
        Check.due("in some", x.sets(0, 2), -1);
        Check.due("none parts them", x.ask(0), -1);
        x.tale(0, 3);
        Check.due("less than he has", x.sets(0, 0), 0);
    }

    // "once SNAPPED it stays so"
    private static void onceSnapped() {
        StrangeWinding x = Check.told("street a;person p plain at a left 10;person q plain at a left 9;person r plain at a left 9;"
                + "winds 5;snap 15;");
        x.tale(0, 15);
        Check.due("as many as snap: q or r", x.sets(0, 0) * 100 + x.sets(0, 2), 206);
        x.tale(0, 0);
        Check.due("one more than one: both", x.sets(0, 0) * 100 + x.sets(0, 1), 106);
        StrangeWinding y = Check.told("street a;person p sun at a left 99;person q plain at a left 9;person r plain at a left 9;"
                + "winds 0;snap 98;");
        y.tale(0, 99);
        Check.due("by nobody", y.sets(0, 0) * 100 + y.sets(0, 2), 100);
        y.tale(0, 0);
        Check.due("snapped by any, as it has more than snap then", y.sets(0, 0), 3);
        StrangeWinding z = Check.told("street a;person p plain at a left 9;person q plain at a left 9;person r plain at a left 9;"
                + "winds 5;snap 13;");
        z.wind(1, 0);
        z.tale(0, 0);
        Check.due("snapped now: by all sets", z.sets(0, 0), 4);
        z.tale(0, 5);
        Check.due("it is not wound", z.sets(0, 0), 0);
    }

    // "at his hours left now"; "STRANGERS to him now"
    private static void asItIsNow() {
        StrangeWinding x = Check.told("street a;person p plain at a left 24;person q plain at a left 34;winds 3;soon 1;");
        x.tale(0, 25);
        Check.due("not by 3", x.sets(0, 0), 0);
        x.hour();
        Check.due("23 + 3", x.sets(0, 0), 0);
        x.hour();
        Check.due("22 + 3", x.sets(0, 1), 2);
        x.wind(0, 1);
        Check.due("strangers no more", x.sets(0, 0), 0);
        x.undo();
        Check.due("undone", x.sets(0, 1), 2);
    }

    // "the other one for whom the greater number of these that have them, or do not, is the least ...; of equal ones the first"
    private static void asksThatPart() {
        StrangeWinding x = Check.told("street a;person p plain at a left 4;person q plain at a left 1;person r plain at a left 2;"
                + "person s plain at a left 3;person t plain at a left 6;winds thumb;");
        Check.due("all sets: each parts them alike", x.ask(0), 1);
        x.tale(0, 13);
        Check.due("1 + 2 + 6, or 3 + 6", x.ask(0), 1);
        x.tale(0, 10);
        Check.due("6 is 1 + 2 + 3, or 6", x.ask(0), 1);
        // 3 more: q and r, or s: each parts them. 1 more: q alone.
        x.tale(0, 7);
        Check.due("q", x.ask(0), 1);
        StrangeWinding y = Check.told("street a;person p plain at a left 1;person q plain at a left 9;person r plain at a left 9;"
                + "person s plain at a left 9;person z plain at a left 5;winds 2*(thumb=9)+(thumb=1)*2;");
        y.tale(3, 13);
        // s has 9, and needs 4: two of p, q, r, with z, who gives nothing, or without: 2 of 3 have each, half have z.
        Check.due("six sets", y.sets(3, 0), 6);
        Check.due("z: 3 of 6", y.ask(3), 4);
        StrangeWinding known = Check.told("street a;person p plain at a left 4;person q plain at a left 9;"
                + "person r plain at a left 9;winds 1;knows p q;");
        Check.due("q is in none: r", known.ask(0), 2);
    }

    // "if that is less than all"; "NONE: others, none parts them"
    private static void asksThatDoNot() {
        StrangeWinding x = Check.told("street a;person p plain at a left 4;person q plain at a left 9;person r hermit at a left 9;"
                + "winds 5;");
        x.tale(0, 9);
        Check.due("one set", x.sets(0, 0), 1);
        Check.due("none parts it", x.ask(0), -1);
        x.tale(0, 4);
        Check.due("the empty set", x.sets(0, 0), 1);
        Check.due("none parts it", x.ask(0), -1);
        Check.due("nobody could have", Check.told("street a;person p plain at a left 4;").ask(0), -1);
        Check.due("others", x.ask(3), -1);
        Check.due("others", x.ask(-1), -1);
    }

    // "the other one": PERSON 0, and PERSON 5
    private static void asksForTheFirstAndTheLast() {
        StrangeWinding x = Check.told("street a;person p plain at a left 4;person q plain at a left 4;winds 3;");
        Check.due("with p, or not", x.sets(1, 0) * 100 + x.sets(1, 1) * 10 + x.sets(1, 2), 201);
        Check.due("p parts them", x.ask(1), 0);
        x.tale(1, 7);
        Check.due("p alone", x.sets(1, 0) * 100 + x.sets(1, 1) * 10 + x.sets(1, 2), 111);
        Check.due("nothing to ask", x.ask(1), -1);
        StrangeWinding y = Check.told("street a;street b;person pa plain at b left 4;person pb plain at b left 4;"
                + "person pc plain at b left 4;person pd plain at b left 4;person pe plain at a left 4;"
                + "person pf plain at a left 4;winds 3;");
        Check.due("the sixth parts them", y.ask(4), 5);
        Check.due("the sixth", y.sets(4, 0) * 100 + y.sets(4, 2), 232);
        StrangeWinding all = Check.told("street a;person pa plain at a left 1;person pb plain at a left 1;"
                + "person pc plain at a left 1;person pd plain at a left 1;person pe plain at a left 1;"
                + "person pf plain at a left 1;winds 1;");
        for (int p = 0; p < 6; p++) {
            Check.due("32 sets of five others", all.sets(p, 0), 32);
            Check.due("all but himself", all.sets(p, 2), 63 - (1 << p));
            Check.due("none in all", all.sets(p, 1), 0);
            Check.due("the first of equal ones, not himself", all.ask(p), p == 0 ? 1 : 0);
            all.tale(p, 6);
            Check.due("all five", all.sets(p, 0) * 100 + all.sets(p, 1), 163 - (1 << p));
            all.tale(p, 7);
            Check.due("a sixth there is not", all.sets(p, 0), 0);
        }
    }

    // "behind one of so many (1 to 6) HOURS"
    private static void oneToSixHours() {
        StrangeWinding x = Check.told(CLIQUE + "person p plain at b left 9;person q plain at d left 9;");
        // A 25-th of each pair's share goes to each of 25 pairs: 5 of them meet.
        int[] clique = {-1, 200000, 360000, 488000, 590400, 672300, 737800, -1, -1};
        StrangeWinding y = Check.told("street a;street b;lane a b;person p plain at a left 9;person q plain at b left 9;");
        int[] lane = {-1, 500000, 750000, 875000, 937500, 968748, 984372, -1, -1};
        for (int hours = 0; hours <= 8; hours++) {
            Check.due("five streets, hours " + hours, x.meet(0, 1, hours), clique[hours]);
            Check.due("the other way", x.meet(1, 0, hours), clique[hours]);
            Check.due("two streets, hours " + hours, y.meet(0, 1, hours), lane[hours]);
        }
        for (int wild : WILD) {
            Check.due("hours", x.meet(0, 1, wild), -1);
            Check.due("person", x.meet(wild, 1, 1), -1);
            Check.due("other", x.meet(0, wild, 1), -1);
        }
    }

    // "NONE: others, the same, in the same STREET"
    private static void notInTheSameStreet() {
        StrangeWinding x = Check.told(ROW + "person p plain at a left 9;person q plain at b left 9;");
        Check.due("apart", x.meet(0, 1, 1), 333332);
        Check.due("the same", x.meet(0, 0, 1), -1);
        Check.due("others", x.meet(0, 2, 1), -1);
        Check.due("others", x.meet(2, 0, 1), -1);
        x.walk(0, 1);
        Check.due("in the same STREET", x.meet(0, 1, 1), -1);
        Check.due("in the same STREET", x.meet(1, 0, 6), -1);
    }

    // "cut, ...; what is cut is lost"
    private static void whatIsCut() {
        StrangeWinding x = Check.told(ROW + "person p plain at a left 9;person q plain at b left 9;");
        // From (a, b): six pairs get 166,666 each, of which (a, a) and (b, b) meet; 4 are lost.
        // Then (a, b) gives 27,777 to six, (a, c) 41,666 to four, (b, a) 27,777, (b, c) 27,777.
        Check.due("one hour", x.meet(0, 1, 1), 2 * 166666);
        Check.due("two hours", x.meet(0, 1, 2), 2 * 166666 + 2 * 27777 + 41666 + 2 * 27777 + 2 * 27777);
    }

    private static void neverMeet() {
        StrangeWinding x = Check.told("street a;street b;street c;lane a b;person p plain at a left 9;person q plain at c left 9;");
        for (int hours = 1; hours <= 6; hours++) {
            Check.due("never", x.meet(0, 1, hours), 0);
        }
    }

    // "(whether they SIT or not)"
    private static void whetherTheySit() {
        StrangeWinding x = Check.told("street a;street b;lane a b;person p plain at a left 0;person q plain at b left 0;"
                + "person r plain at b left 9;knows p q;");
        Check.due("both sit, and know each other", x.meet(0, 1, 1), 500000);
        Check.due("one sits", x.meet(0, 2, 1), 500000);
    }

    // "PAIRS: the most pairs of STRANGERS, ..., none in two"
    private static void pairsOfSix() {
        StrangeWinding x = Check.told("street a;person p plain at a left 9;person q plain at a left 9;person r plain at a left 9;"
                + "person s plain at a left 9;person t plain at a left 9;person u plain at a left 9;soon 1;winds 0;");
        rowIs(x, 3, 1, 0, 3, 2, 5, 4);
        x.wind(0, 1);
        rowIs(x, 3, 2, 3, 0, 1, 5, 4);
        x.wind(0, 2);
        rowIs(x, 3, 3, 2, 1, 0, 5, 4);
        x.wind(0, 3);
        x.wind(0, 4);
        rowIs(x, 3, 5, 2, 1, 4, 3, 0);
        x.wind(0, 5);
        rowIs(x, 2, 0, 1, 3, 2, 5, 4);
    }

    // "of equal ones the first row (of PEOPLE, by numbers, who is with them, themselves for none)"
    private static void pairsOfFive() {
        StrangeWinding x = Check.told("street a;person p plain at a left 9;person q plain at a left 9;person r plain at a left 9;"
                + "person s plain at a left 9;person t plain at a left 9;");
        rowIs(x, 2, 0, 2, 1, 4, 3);
        StrangeWinding one = Check.told("street a;person p plain at a left 9;");
        rowIs(one, 0, 0);
        StrangeWinding three = Check.told("street a;person p plain at a left 9;person q plain at a left 9;"
                + "person r plain at a left 9;knows q r;");
        rowIs(three, 1, 1, 0, 2);
    }

    private static void rowIs(StrangeWinding x, int pairs, int... row) {
        Check.due("how many", x.pairs(-1), pairs);
        for (int p = 0; p < row.length; p++) {
            Check.due("who is with " + p, x.pairs(p), row[p]);
        }
        Check.due("others", x.pairs(row.length), -2);
    }

    // "in one STREET": the two of a pair are, pairs may be in several
    private static void pairsInOneStreet() {
        StrangeWinding x = Check.told("street a;street b;street c;lane a b;lane a c;person p plain at a left 9;"
                + "person q plain at b left 9;person r plain at a left 9;person s plain at b left 9;person t plain at c left 9;");
        rowIs(x, 2, 2, 3, 0, 1, 4);
        x.walk(0, 2);
        rowIs(x, 2, 4, 3, 2, 1, 0);
    }

    // "(all may, whoever they are)"
    private static void pairsOfWhomever() {
        StrangeWinding x = Check.told("street a;person p hermit at a left 0;person q sun at a left 0;");
        rowIs(x, 1, 1, 0);
        StrangeWinding y = Check.told("street a;person p deaf at a left 9;person q plain at a left 9;snap 5;winds 0;soon 9;");
        y.wind(0, 1);
        Check.due("snapped", y.count(6), 2);
        rowIs(y, 1, 1, 0);
    }

    // "person NONE: how many; else who (himself: none); -2: others"
    private static void pairsOfOthers() {
        StrangeWinding x = Check.told("street a;person p plain at a left 9;");
        for (int wild : WILD) {
            Check.due("pairs " + wild, x.pairs(wild), wild == -1 ? 0 : -2);
        }
        Check.due("nobody", new StrangeWinding().pairs(-1), 0);
        Check.due("nobody", new StrangeWinding().pairs(0), -2);
    }

    private static void throwsAt(String stake, int both, int loses, int gets) {
        StrangeWinding x = new StrangeWinding();
        for (int what = -1; what <= 1; what++) {
            Check.due(stake, Check.rests(x, both, loses, gets, what), Check.THROWS);
        }
    }

    // "each gets so much (0 to 9)", "he loses so much (0 to 9)", "gets so much (0 to 9)"
    private static void zeroToNine() {
        StrangeWinding x = new StrangeWinding();
        for (int n = -2; n <= 11; n++) {
            boolean within = n >= 0 && n <= 9;
            Check.due("both " + n, Check.rests(x, n, 5, 5, -1), within ? n >= 5 ? 2 : 1 : Check.THROWS);
            Check.due("loses " + n, Check.rests(x, 5, n, 5, -1), within ? n == 0 ? 4 : 2 : Check.THROWS);
            Check.due("gets " + n, Check.rests(x, 5, 5, n, -1), within ? n <= 5 ? 2 : 1 : Check.THROWS);
        }
        for (int wild : WILD) {
            throwsAt("both", wild, 0, 0);
            throwsAt("loses", 0, wild, 0);
            throwsAt("gets", 0, 0, wild);
        }
    }

    // "i: the i-th as 2 * the first one's choice + the other one's (1 offers; the least first)"; "none such"
    private static void restsByNumber() {
        StrangeWinding x = new StrangeWinding();
        int[][] due = {{0, 0, 0, 4, 0, 1, 2, 3}, {9, 9, 9, 2, 0, 3}, {9, 0, 0, 2, 0, 3}, {0, 0, 9, 3, 0, 1, 2}, {0, 9, 9, 1, 0},
            {0, 1, 0, 2, 0, 3}, {4, 1, 5, 1, 0}, {5, 1, 4, 2, 0, 3}};
        for (int[] row : due) {
            Check.due("how many", Check.rests(x, row[0], row[1], row[2], -1), row[3]);
            for (int i = 0; i < row[3]; i++) {
                Check.due("the " + i + "-th", Check.rests(x, row[0], row[1], row[2], i), row[4 + i]);
            }
            Check.due("none such", Check.rests(x, row[0], row[1], row[2], row[3]), Check.THROWS);
            Check.due("none such", Check.rests(x, row[0], row[1], row[2], -2), Check.THROWS);
        }
        for (int wild : WILD) {
            Check.due("none such", Check.rests(x, 0, 0, 0, wild == -1 ? 4 : wild), Check.THROWS);
        }
    }

    // "by which neither would get more by the other": as much is no more
    private static void restsOfEqualGains() {
        StrangeWinding x = new StrangeWinding();
        for (int n = 0; n <= 9; n++) {
            Check.due("to offer gets as much as to walk on", Check.rests(x, n, 9, n, 1), 3);
            Check.due("one more to walk on", n < 9 ? Check.rests(x, n, 9, n + 1, 1) : Check.THROWS, Check.THROWS);
            Check.due("none is always at rest", Check.rests(x, n, 0, 9 - n, 0), 0);
        }
    }

    // "YEARS by a SEED (0 to 9999)"; "so many hours (1 to 99)"; "what 0, 1, 2; NONE: others"
    private static void seedsAndHours() {
        StrangeWinding x = Check.told("street a;person p sun at a left 98;person q sun at a left 99;");
        for (int hours = -1; hours <= 101; hours++) {
            boolean within = hours >= 1 && hours <= 99;
            Check.due("who sits behind " + hours, x.years(0, hours, 2), within ? hours < 98 ? 0 : hours < 99 ? 1 : 3 : -1);
        }
        for (int seed : new int[] {0, 1, 9998, 9999}) {
            for (int what = -1; what <= 3; what++) {
                Check.due("seed " + seed + " what " + what, x.years(seed, 98, what), what == 2 ? 1 : what < 0 || what > 2 ? -1 : 0);
            }
        }
        Check.due("seed", x.years(10000, 1, 0), -1);
        for (int wild : WILD) {
            Check.due("seed", x.years(wild == 100 ? -7 : wild, 1, 0), -1);
            Check.due("hours", x.years(0, wild, 0), -1);
            Check.due("what", x.years(0, 1, wild), -1);
        }
    }

    // "modulo 2147483648": a DRAW wraps around there
    private static void drawsGoRound() {
        for (int seed : new int[] {0, 1, 2, 1023, 4096, 9998, 9999}) {
            for (int hours : new int[] {1, 2, 31, 99}) {
                yearsByHand(seed, hours);
            }
        }
    }

    private static long next(long g) {
        return (g * 1103515245L + 12345L) % 2147483648L;
    }

    private static void yearsByHand(int seed, int hours) {
        String text = ROW + "lane a c;person p plain at a left 9;person q deaf at b left 12;person r plain at c left 9;"
                + "winds 7+crowd;snap 14;soon 9;";
        StrangeWinding x = Check.told(text);
        StrangeWinding y = Check.told(text);
        long g = seed;
        int windings = 0;
        int snaps = 0;
        for (int i = 0; i < hours; i++) {
            g = next(g);
            int who = (int) (g / 65536 % 3);
            g = next(g);
            y.walk(who, (int) (g / 65536 % 3));
            int ahead = Integer.bitCount(y.count(6));
            windings += y.hour();
            int snapped = y.count(6);
            snaps += Integer.bitCount(snapped) - ahead;
            g = next(g);
            for (int p = 0; p < 3 && g / 65536 % 9 == 0; p++) {
                if ((snapped >> p & 1) == 1) {
                    y.mend(p);
                }
            }
        }
        Check.due("windings by " + seed + " of " + hours, x.years(seed, hours, 0), windings);
        Check.due("snapped by " + seed + " of " + hours, x.years(seed, hours, 1), snaps);
        Check.due("who sits by " + seed + " of " + hours, x.years(seed, hours, 2), y.count(5));
    }

    // "from now on (all is as ahead then)"
    private static void allIsAsAhead() {
        StrangeWinding x = Check.told("street a;person p plain at a left 9;person q plain at a left 9;winds 9;snap 10;soon 9;");
        Check.due("q snaps in the first hour", x.years(3, 1, 1), 1);
        x.hour();
        Check.due("from now on nothing does", x.years(3, 1, 1), 0);
        Check.due("nor winds", x.years(3, 1, 0), 0);
        Check.due("the same again", x.years(3, 99, 2), x.years(3, 99, 2));
        Check.due("hour, windings, snapped, undone", x.count(4) * 1000 + x.count(8) * 100 + x.count(6) * 10 + x.count(11), 1121);
    }

    // "a DRAW below 9: 0: all that are SNAPPED are MENDED"
    private static void mendedByADraw() {
        StrangeWinding x = Check.told("street a;person p plain at a left 90;person q plain at a left 90;person r sun at a left 90;"
                + "person s plain at a left 90;snap 1;winds 0;");
        x.wind(2, 0);
        x.wind(2, 1);
        Check.due("two are snapped", x.count(6), 3);
        int mended = 0;
        for (int seed = 0; seed < 90; seed++) {
            boolean is = next(next(next(seed))) / 65536 % 9 == 0;
            mended += is ? 1 : 0;
            Check.due("all or none, by " + seed, x.years(seed, 1, 2), is ? 0 : 3);
            Check.due("those ahead are not counted", x.years(seed, 1, 1), 0);
        }
        Check.due("some", mended > 0, true);
    }
}
