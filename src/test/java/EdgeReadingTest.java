/** Promises 2, 3, 4 at their edges: for each sentence of the Terms that names a limit, a test of its own. */
public final class EdgeReadingTest {
    private static final String STREETS = "street a;street b;street c;street d;street e;";
    private static final String PEOPLE = "person p plain at a left 1;person q hermit at b left 2;"
            + "person r deaf at c left 3;person s sun at d left 4;person t plain at e left 5;person u sun at a left 6;";
    private static final String FULL = STREETS + PEOPLE;
    private static final String TWO = "street a;street b;lane a b;person p plain at a left 9;person q deaf at b left 8;";
    private static final String[] KEPT = ("street lane person at left knows soon snap winds walk wind mend hour "
            + "plain hermit deaf sun not and or").split(" ");

    public static void main(String[] args) {
        theTape();
        tokens();
        names();
        streetsAndLanes();
        people();
        numbers();
        laws();
        weeks();
        faults();
        Check.end();
    }

    private static void theTape() {
        atMostAThousandSigns();
        whatIsBeyondIsLeftOut();
        whichSignsCome();
        eachByteHasItsPlace();
        highestByteFirst();
        whatReadsTakes();
    }

    private static void tokens() {
        asLongAsCanBe();
        blanksWhereOneLikes();
        wordsOfEight();
        numbersOfFour();
        eightSigns();
        whatIsNoneIsNoSign();
    }

    private static void names() {
        keptWordsAreNoNames();
        factsMayBeNames();
        noTwoAlike();
    }

    private static void streetsAndLanes() {
        fiveStreets();
        lanesOfStreetsTold();
        eachLaneOnce();
    }

    private static void people() {
        sixPeople();
        fourKinds();
        hoursLeft();
        knowsOfPeopleTold();
        eachPairKnowsOnce();
    }

    private static void numbers() {
        soonOfOneToNine();
        snapOfOneToNinetyNine();
        onceEach();
        notOnce();
    }

    private static void laws() {
        partsWithinFour();
        partsWithinFive();
        withinGoesNotOn();
        oneComparison();
        whatMayJoin();
    }

    private static void weeks() {
        fortyLines();
        theFortyFirst();
        wordsOfAWeek();
        namesOfAWeek();
        aWeekIsTheWeek();
    }

    private static void faults() {
        theEndIsAToken();
        theLastPlace();
        noWordIsLeftOut();
        theFirstFromTheLeft();
        theLeastOfAToken();
        nothingIsALand();
        aLandBeginsAnew();
        nothingOfAnElderLand();
    }

    private static void landIs(String text, int fault) {
        Check.due("land " + text, Check.land(new StrangeWinding(), text), fault);
    }

    private static void weekIs(String text, int fault) {
        StrangeWinding x = Check.told(FULL);
        Check.due("week " + text, Check.week(x, text), fault);
        int lines = text.length() - text.replace(";", "").length();
        Check.due("lines of " + text, x.count(9), fault == 0 ? lines : 0);
    }

    private static int at(int kind, String ahead) {
        return kind + 16 * ahead.length();
    }

    // "The TAPE has at most 1,000 signs."
    private static void atMostAThousandSigns() {
        StrangeWinding x = new StrangeWinding();
        Check.due("999", Check.feed(x, " ".repeat(999)), 999);
        Check.due("nothing more", x.feed(0, 0, 0), 999);
        Check.due("1,000", Check.feed(x, " "), 1000);
        Check.due("no 1,001st", Check.feed(x, " "), 1000);
        Check.due("none of 24", x.feed(-1L >>> 2, 0x3131313131313131L, 0x3131313131313131L), 1000);
        Check.due("count", x.count(12), 1000);
    }

    // "what is beyond 1,000, are left out"
    private static void whatIsBeyondIsLeftOut() {
        StrangeWinding x = new StrangeWinding();
        Check.feed(x, " ".repeat(984));
        Check.due("16 of 24 come", x.feed(Check.bytes("soon 4; ", 0), Check.bytes("soon  7;", 0),
                Check.bytes("snap 9; ", 0)), 1000);
        Check.due("the 1,000th is read", x.land(), at(3, " ".repeat(992)));
        Check.feed(x, " ".repeat(984));
        x.feed(Check.bytes("soon 4; ", 0), Check.bytes("winds 7;", 0), Check.bytes("snap 9; ", 0));
        Check.due("what is beyond is not", x.land(), 0);
        Check.due("soon", x.count(2), 4);
        Check.due("snap", x.count(3), 60);
        Check.feed(x, " ".repeat(994));
        Check.due("a sign left out", Check.feed(x, "soon 4;"), 1000);
        Check.due("is missed at the end", x.land(), at(1, " ".repeat(1000)));
    }

    // "signs, 10 and 32 .. 126"; "others than 10 and 32 .. 126 ... are left out"
    private static void whichSignsCome() {
        StrangeWinding x = new StrangeWinding();
        int on = 0;
        for (int sign = 0; sign < 256; sign++) {
            on += sign == 10 || sign >= 32 && sign <= 126 ? 1 : 0;
            Check.due("sign " + sign, x.feed((long) sign << 56, 0, 0), on);
        }
        Check.due("96 of 256", on, 96);
        StrangeWinding y = new StrangeWinding();
        Check.due("left out within a WORD", Check.feed(y, "so\ton 2\u007f;\r\n\u00e9soon\u0000"), 12);
        Check.due("as if they were not", y.land(), at(3, "soon 2;\n"));
    }

    // "Up to 24 signs"; "the bytes of a, b, c"
    private static void eachByteHasItsPlace() {
        StrangeWinding x = new StrangeWinding();
        for (int i = 0; i < 24; i++) {
            long[] rows = {0, 0, 0};
            rows[i / 8] = 0x20L << 56 - 8 * (i % 8);
            Check.due("byte " + i, x.feed(rows[0], rows[1], rows[2]), i + 1);
        }
        Check.due("24 at once", x.feed(0x2020202020202020L, 0x2020202020202020L, 0x2020202020202020L), 48);
        for (int i = 0; i < 24; i++) {
            StrangeWinding y = new StrangeWinding();
            Check.due("24 signs", Check.feed(y, " ".repeat(i) + "!" + " ".repeat(23 - i)), 24);
            Check.due("the sign is the " + i + "-th", y.land(), 1 + 16 * i);
        }
    }

    // "of each the highest first"
    private static void highestByteFirst() {
        StrangeWinding x = new StrangeWinding();
        x.feed(Check.bytes("soon 5;s", 0), Check.bytes("nap 43;s", 0), Check.bytes("treet ab", 0));
        x.feed(Check.bytes("c;", 0), 0, Check.bytes("street d", 0));
        Check.due("behind the TAPE", x.feed(0, Check.bytes(";", 0), 0), 35);
        Check.due("land", x.land(), 0);
        Check.due("soon, snap, streets", x.count(2) * 10000 + x.count(3) * 100 + x.count(0), 54302);
        Check.due("a negative long", new StrangeWinding().feed(0xFF20FF20FF20FF20L, -1, 0x8020L), 5);
    }

    // "what reads it takes it: it is empty then"
    private static void whatReadsTakes() {
        StrangeWinding x = new StrangeWinding();
        String[] texts = {"soon 4;", "soon 4", "hour;", "hour"};
        for (int i = 0; i < 4; i++) {
            Check.due("on the TAPE", Check.feed(x, texts[i]), texts[i].length());
            int fault = i < 2 ? x.land() : x.week();
            Check.due("fault of " + texts[i], fault, i % 2 == 0 ? 0 : at(1, texts[i]));
            Check.due("empty behind " + texts[i], x.count(12), 0);
            Check.due("the next sign is the first", Check.feed(x, "!"), 1);
            Check.due("at the first place", x.week(), 1);
            Check.due("nothing is left", x.week(), 0);
        }
    }

    // "TOKENS, each as long as can be"
    private static void asLongAsCanBe() {
        landIs("street soons;street ats;street hourhour;", 0);
        landIs("streeta;", 1);
        landIs("street a;lane aa a;", at(2, "street a;lane "));
        landIs("winds 1 2;", at(1, "winds 1 "));
        landIs("winds 12;", 0);
        landIs("snap 1 1;", at(1, "snap 1 "));
        landIs("winds 3and4or5<6;", 0);
        landIs("soon3;snap9;winds1;", 0);
        landIs("winds notgoes;", at(1, "winds "));
        landIs("winds not(goes);", 0);
    }

    // "blanks (10, 32) between where one likes"
    private static void blanksWhereOneLikes() {
        landIs("\n \n", 0);
        landIs("street\na\n;\n\n  street\n b;lane a\nb;person p\nsun\nat\na\nleft\n3;winds(\n1 )< 2 ;\n", 0);
        landIs("  soon 3  ;  ", 0);
        landIs(" !", at(1, " "));
        landIs("str eet a;", 1);
        landIs("ztreet a;", 1);
        landIs("streez a;", 1);
        landIs("street a;person p pl ain at a left 1;", at(1, "street a;person p "));
        landIs("snap 1\n0;", at(1, "snap 1\n"));
        weekIs(" hour\n;\n\nhour ; ", 0);
    }

    // "WORDS (letters a .. z, 8 at most)"; "a longer WORD ..., too, at its first sign"
    private static void wordsOfEight() {
        landIs("street a;street z;street abcdefgh;street zzzzzzzz;street zzzzzzzy;", 0);
        landIs("street abcdefgh;street bbcdefgh;lane abcdefgh bbcdefgh;", 0);
        landIs("street abcdefgh;lane abcdefgh abcdefg;", at(2, "street abcdefgh;lane abcdefgh "));
        landIs("street abcdefghi;", at(1, "street "));
        landIs("street zzzzzzzzz;", at(1, "street "));
        landIs("street " + "a".repeat(992) + ";", at(1, "street "));
        landIs("street a;lane abcdefghi a;", at(1, "street a;lane "));
        landIs("winds crowdcrowd;", at(1, "winds "));
        // 13 letters would fill a long: what is as long must not be taken for another WORD.
        landIs("street a;lane " + "a".repeat(14) + " a;", at(1, "street a;lane "));
        landIs("street aB;", at(1, "street a"));
        landIs("street `;", at(1, "street "));
        landIs("street {;", at(1, "street "));
        weekIs("mendmendm p;", 1);
    }

    // "NUMBERS (1 to 4 digits; a letter may stand right behind)"; "a longer ... NUMBER, too"
    private static void numbersOfFour() {
        landIs("winds 0;", 0);
        landIs("winds 0000;", 0);
        landIs("winds 9999;", 0);
        landIs("winds 10000;", at(1, "winds "));
        landIs("winds 00000;", at(1, "winds "));
        landIs("soon 0009;", 0);
        landIs("soon 00009;", at(1, "soon "));
        landIs("snap 0100;", at(4, "snap "));
        landIs("snap 10000;", at(1, "snap "));
        landIs("winds " + "1".repeat(993) + ";", at(1, "winds "));
        // 2^32 + 3: what wraps around must not be taken for 3.
        landIs("soon 4294967299;", at(1, "soon "));
        landIs("winds 1or 1and 1;", 0);
        landIs("winds 1x;", at(1, "winds 1"));
        landIs("street a1;", at(1, "street a"));
        landIs("soon /;", at(1, "soon "));
        landIs("soon :;", at(1, "soon "));
    }

    // "the signs ( ) < = + - * ;  All else ... is none."
    private static void eightSigns() {
        for (char sign = 33; sign < 127; sign++) {
            boolean isDigit = sign >= '0' && sign <= '9';
            landIs("soon 3" + sign, sign == ';' ? 0 : isDigit ? at(4, "soon ") : at(1, "soon 3"));
            boolean stands = "<=+-*".indexOf(sign) >= 0;
            landIs("winds goes " + sign + " met;", stands ? 0 : at(1, sign == ';' ? "winds goes ; " : "winds goes "));
        }
        landIs("winds (goes);", 0);
        landIs("winds [goes];", at(1, "winds "));
        landIs("winds goes>met;", at(1, "winds goes"));
        landIs("winds goes/met;", at(1, "winds goes"));
    }

    // "All else (a longer WORD or NUMBER, too ...) is none": not the sign whose code the NUMBER is, or that was ahead of it
    private static void whatIsNoneIsNoSign() {
        for (char sign : "()<=+-*;".toCharArray()) {
            String number = "000" + (int) sign;
            landIs("winds goes " + number + " met;", at(1, "winds goes "));
            landIs("winds goes 0" + number + " met;", at(1, "winds goes "));
            landIs("winds 0" + number + " met);", at(1, "winds "));
            landIs("soon 3 0" + number + " ", at(1, "soon 3 "));
            weekIs("hour 0" + number + " ", at(1, "hour "));
        }
        landIs("soon 3;abcdefghi", at(1, "soon 3;"));
        landIs("winds (abcdefghi1);", at(1, "winds ("));
        landIs("winds (1)abcdefghi;", at(1, "winds (1)"));
        landIs("winds 1+abcdefghi 1;", at(1, "winds 1+"));
        weekIs("hour;abcdefghi", at(1, "hour;"));
    }

    // "A NAME is another WORD than street, lane, ..., the KINDS, not, and, or"
    private static void keptWordsAreNoNames() {
        Check.due("twenty", KEPT.length, 20);
        for (String word : KEPT) {
            landIs("street " + word + ";", at(1, "street "));
            landIs("street a;person " + word + " sun at a left 1;", at(1, "street a;person "));
            landIs("street a;lane " + word + " a;", at(1, "street a;lane "));
            landIs("street a;lane a " + word + ";", at(1, "street a;lane a "));
            landIs("street a;person p sun at " + word + " left 1;", at(1, "street a;person p sun at "));
            landIs(TWO + "knows " + word + " p;", at(1, TWO + "knows "));
            landIs(TWO + "knows p " + word + ";", at(1, TWO + "knows p "));
            weekIs("walk " + word + " b;", at(1, "walk "));
            weekIs("walk p " + word + ";", at(1, "walk p "));
            weekIs("wind " + word + " p;", at(1, "wind "));
            weekIs("wind p " + word + ";", at(1, "wind p "));
            weekIs("mend " + word + ";", at(1, "mend "));
            landIs("street " + word + "x;", word.length() < 8 ? 0 : at(1, "street "));
            landIs("street x" + word + ";", word.length() < 8 ? 0 : at(1, "street "));
            landIs("winds " + word + ";", at(1, "winds" + (word.equals("not") ? " not" : " ")));
        }
    }

    // The facts are not among the words that are no NAMES.
    private static void factsMayBeNames() {
        StrangeWinding x = Check.told("street goes;street met;lane goes met;person thumb sun at goes left 7;"
                + "person crowd plain at met left 5;knows thumb crowd;winds goes+thumb*10;");
        Check.due("facts yet", x.gives(0, 1), 40);
        Check.due("5 + 10 * 7 is beyond 40; 7 + 10 * 5 too", x.gives(1, 0), 40);
        Check.due("week", Check.week(x, "walk thumb met;wind crowd thumb;mend crowd;"), 0);
        StrangeWinding y = Check.told("street goes;person met sun at goes left 7;person p sun at goes left 5;winds goes;");
        Check.due("the fact", y.gives(0, 1), 5);
    }

    // "no two (STREETS, PEOPLE) are alike"; "3 a NAME told already"
    private static void noTwoAlike() {
        landIs("street a;street a;", at(3, "street a;street "));
        landIs("street a;street b;street a;", at(3, "street a;street b;street "));
        landIs("street a;person a sun at a left 1;", at(3, "street a;person "));
        String one = "street a;person p sun at a left 1;";
        landIs(one + "street p;", at(3, one + "street "));
        landIs(one + "person p sun at a left 1;", at(3, one + "person "));
        landIs(one + "person q sun at a left 1;street b;person b sun at a left 1;",
                at(3, one + "person q sun at a left 1;street b;person "));
        StrangeWinding x = Check.told(one);
        Check.due("those of the elder LAND are free", Check.land(x, "street p;person a sun at p left 1;"), 0);
        Check.land(x, "street k;!");
        Check.due("those of a LAND with a FAULT are free", Check.land(x, "street k;"), 0);
    }

    // "street: 5 at most, numbered as told"; "5 one too many: the words street of a sixth"
    private static void fiveStreets() {
        for (int n = 0; n <= 5; n++) {
            StrangeWinding x = Check.told(STREETS.substring(0, 9 * n));
            Check.due("streets", x.count(0), n);
            Check.due("the last one", x.lanes(n - 1), n == 0 ? -1 : 0);
            Check.due("none beyond", x.lanes(n), -1);
        }
        landIs(STREETS + "street f;", at(5, STREETS));
        landIs(STREETS + "street", at(5, STREETS));
        landIs(STREETS + "street a;", at(5, STREETS));
        landIs(STREETS + "street 7;", at(5, STREETS));
        landIs(STREETS + "streets;", at(1, STREETS));
        landIs(STREETS + PEOPLE + "soon 1;street f;", at(5, STREETS + PEOPLE + "soon 1;"));
        StrangeWinding x = Check.told(STREETS + "lane e b;person p sun at d left 1;");
        Check.due("e is 4, b is 1", x.lanes(4) * 100 + x.lanes(1), 216);
        Check.due("d is 3", x.person(0, 1), 3);
    }

    // "lane: two STREETS told, not the same"; "2 a NAME of no STREET (behind lane, the second of lane)"
    private static void lanesOfStreetsTold() {
        landIs("lane a b;", at(2, "lane "));
        landIs("lane a b;street a;street b;", at(2, "lane "));
        landIs("street a;lane b a;street b;", at(2, "street a;lane "));
        landIs("street a;lane a b;street b;", at(2, "street a;lane a "));
        landIs("street a;lane a a;", at(3, "street a;lane a "));
        landIs(STREETS + "lane e e;", at(3, STREETS + "lane e "));
        landIs(TWO + "lane p b;", at(2, TWO + "lane "));
        landIs(TWO + "lane a q;", at(2, TWO + "lane a "));
        landIs(TWO + "street c;lane a c;lane c b;", 0);
    }

    // "each pair once"; "of lane ... of a pair told"
    private static void eachLaneOnce() {
        StringBuilder all = new StringBuilder(STREETS);
        for (char i = 'a'; i <= 'e'; i++) {
            for (char j = 'a'; j < i; j++) {
                all.append("lane ").append((i + j) % 2 == 0 ? i : j).append(' ').append((i + j) % 2 == 0 ? j : i).append(';');
            }
        }
        StrangeWinding x = Check.told(all.toString());
        for (int street = 0; street < 5; street++) {
            Check.due("all others by a lane of " + street, x.lanes(street), 31 - (1 << street));
        }
        for (char i = 'a'; i <= 'e'; i++) {
            for (char j = 'a'; j <= 'e'; j++) {
                landIs(all + "lane " + i + " " + j + ";", at(3, all + "lane a "));
            }
        }
    }

    // "person: 6 at most, numbered as told"; "person of a seventh"
    private static void sixPeople() {
        String told = STREETS;
        for (int n = 0; n < 6; n++) {
            told += "person p" + "abcdef".charAt(n) + " plain at " + "abcdea".charAt(n) + " left " + (n + 1) + ";";
            StrangeWinding x = Check.told(told);
            Check.due("people", x.count(1), n + 1);
            Check.due("the last one's hours", x.person(n, 2), n + 1);
            Check.due("the first one's hours", x.person(0, 2), 1);
            Check.due("none beyond", x.person(n + 1, 2), -1);
        }
        landIs(FULL, 0);
        landIs(FULL + "person v plain at a left 1;", at(5, FULL));
        landIs(FULL + "person", at(5, FULL));
        landIs(FULL + "person p plain at a left 1;", at(5, FULL));
        landIs(FULL + "person 7;", at(5, FULL));
        landIs(FULL + "persons;", at(1, FULL));
    }

    // "KIND: plain, hermit, deaf, sun"
    private static void fourKinds() {
        StrangeWinding x = Check.told(FULL);
        int[] kinds = {0, 1, 2, 3, 0, 3};
        for (int p = 0; p < 6; p++) {
            Check.due("kind of " + p, x.person(p, 0), kinds[p]);
        }
        for (String word : "a zat az b att".split(" ")) {
            landIs("street a;person p sun " + word + " a left 1;", at(1, "street a;person p sun "));
        }
        for (String word : "a zeft lefz b right".split(" ")) {
            landIs("street a;person p sun at a " + word + " 1;", at(1, "street a;person p sun at a "));
        }
        for (String word : "a plains sunn hermi not at left knows x 3 (".split(" ")) {
            landIs("street a;person p " + word + " at a left 1;", at(1, "street a;person p "));
        }
    }

    // "at a STREET told; 0 to 99 hours left"; "4 a NUMBER that is not as told"
    private static void hoursLeft() {
        String head = "street a;person p sun at a left ";
        for (int n = 0; n <= 99; n++) {
            StrangeWinding x = Check.told(head + n + ";");
            Check.due("left " + n, x.person(0, 2), n);
        }
        landIs(head + "100;", at(4, head));
        landIs(head + "9999;", at(4, head));
        landIs(head + "10000;", at(1, head));
        landIs(head + "0099;", 0);
        landIs(head + "-1;", at(1, head));
        landIs(head + ";", at(1, head));
        landIs("person p sun at a left 1;", at(2, "person p sun at "));
        landIs("street a;person p sun at b left 1;street b;", at(2, "street a;person p sun at "));
        landIs("street a;person p sun at p left 1;", at(2, "street a;person p sun at "));
    }

    // "knows: two PEOPLE told, not the same"; "of no PERSON (behind knows, the second of knows)"
    private static void knowsOfPeopleTold() {
        landIs("knows p q;", at(2, "knows "));
        landIs(TWO + "knows r p;", at(2, TWO + "knows "));
        landIs(TWO + "knows p r;person r sun at a left 1;", at(2, TWO + "knows p "));
        landIs(TWO + "knows a p;", at(2, TWO + "knows "));
        landIs(TWO + "knows p b;", at(2, TWO + "knows p "));
        landIs(TWO + "knows p p;", at(3, TWO + "knows p "));
        landIs(TWO + "knows q q;", at(3, TWO + "knows q "));
        landIs(TWO + "knows q p;", 0);
        // A lane between the STREETS of the same numbers is no pair of PEOPLE, nor the other way.
        landIs(TWO + "knows p q;street c;lane a c;lane b c;", 0);
    }

    // "each pair once"; "of ... knows of a pair told"
    private static void eachPairKnowsOnce() {
        StringBuilder all = new StringBuilder(FULL);
        for (char i = 'p'; i <= 'u'; i++) {
            for (char j = 'p'; j < i; j++) {
                all.append("knows ").append((i + j) % 2 == 0 ? i : j).append(' ').append((i + j) % 2 == 0 ? j : i).append(';');
            }
        }
        StrangeWinding x = Check.told(all.toString());
        for (int p = 0; p < 6; p++) {
            Check.due("no stranger to " + p, x.person(p, 5), 0);
        }
        for (char i = 'p'; i <= 'u'; i++) {
            for (char j = 'p'; j <= 'u'; j++) {
                landIs(all + "knows " + i + " " + j + ";", at(3, all + "knows p "));
            }
        }
    }

    // "soon 1 to 9 (3)"
    private static void soonOfOneToNine() {
        Check.due("3 if it is not told", Check.told("street a;").count(2), 3);
        for (int n = 0; n <= 12; n++) {
            StrangeWinding x = new StrangeWinding();
            boolean within = n >= 1 && n <= 9;
            Check.due("soon " + n, Check.land(x, "soon " + n + ";"), within ? 0 : at(4, "soon "));
            Check.due("soon", x.count(2), within ? n : 3);
        }
        landIs("soon 9999;", at(4, "soon "));
        landIs("soon -1;", at(1, "soon "));
        landIs("soon x;", at(1, "soon "));
    }

    // "snap 1 to 99 (60)"
    private static void snapOfOneToNinetyNine() {
        Check.due("60 if it is not told", Check.told("street a;").count(3), 60);
        for (int n = 0; n <= 102; n++) {
            StrangeWinding x = new StrangeWinding();
            boolean within = n >= 1 && n <= 99;
            Check.due("snap " + n, Check.land(x, "snap " + n + ";"), within ? 0 : at(4, "snap "));
            Check.due("snap", x.count(3), within ? n : 60);
        }
        landIs("snap 9999;", at(4, "snap "));
        landIs("snap -1;", at(1, "snap "));
        landIs("snap (1);", at(1, "snap "));
    }

    // "soon, snap, winds: once each"; "soon, snap, winds a second time"
    private static void onceEach() {
        String all = "soon 3;snap 60;winds 30-goes;";
        landIs(all, 0);
        for (String word : "soon snap winds".split(" ")) {
            landIs(all + word + " 3;", at(3, all));
            landIs(all + word, at(3, all));
            landIs(all + word + " 10000;", at(3, all));
            landIs(word + " 1;street a;" + word + " 1;", at(3, word + " 1;street a;"));
        }
        StrangeWinding x = Check.told(all);
        Check.due("in another LAND again", Check.land(x, all), 0);
        Check.land(x, all + "!");
        Check.due("behind a LAND with a FAULT again", Check.land(x, all), 0);
    }

    // "any number of"
    private static void notOnce() {
        landIs("soon 1;street a;snap 1;street b;lane a b;person p sun at a left 1;winds 1;street c;person q sun at c left 1;"
                + "lane c a;knows p q;", 0);
        landIs("snap 1;soon 1;", 0);
        landIs("winds 1;snap 1;", 0);
    }

    // "no PART lies within 5 of not and ( )": what is just within
    private static void partsWithinFour() {
        for (int nots = 0; nots <= 4; nots++) {
            for (int rows = 0; rows < 1 << nots; rows++) {
                landIs("winds " + nested(nots, rows, "goes") + ";", 0);
                landIs("winds " + nested(nots, rows, "7") + ";", 0);
            }
        }
        landIs("winds ((((goes+1*2<3 and thumb or met=crowd))));", 0);
        landIs("winds ((((1))))+((((2))))*((((3))))<not not not not 4 and ((not(5)));", 0);
    }

    /** So many of not and ( ) about a PART, by the bits of a row: 1 is not. */
    private static String nested(int deep, int row, String part) {
        if (deep == 0) {
            return part;
        }
        String inner = nested(deep - 1, row >> 1, part);
        return (row & 1) == 1 ? "not " + inner : "(" + inner + ")";
    }

    // "not, or a PART, within 5 others": what is just beyond
    private static void partsWithinFive() {
        for (int row = 0; row < 32; row++) {
            String text = "winds " + nested(5, row, "#");
            String ahead = text.substring(0, text.indexOf('#'));
            for (String part : "7 goes thumb met crowd not ( not(1) (1)".split(" ")) {
                landIs(ahead + part + text.substring(text.indexOf('#') + 1) + ";", at(5, ahead));
            }
            for (String none : "; ) + < and at x 10000 !".split(" ")) {
                landIs(ahead + none, at(1, ahead));
            }
            landIs(ahead, at(1, ahead));
        }
        landIs("winds ((((1+(2)))));", at(5, "winds ((((1+("));
        landIs("winds ((((1*not 2))));", at(5, "winds ((((1*not "));
        landIs("winds not not not not(1);", at(5, "winds not not not not("));
    }

    // not lies about its one PART alone, ( ) about what is between.
    private static void withinGoesNotOn() {
        landIs("winds not not not not 1+not not not not 2;", 0);
        landIs("winds not not not not 1 and (((1)));", 0);
        landIs("winds (((not 1+not 2)));", 0);
        landIs("winds (((not 1+(2))));", 0);
        landIs("winds (((1))+((2))+((3)));", 0);
    }

    // "TEST: SUM, or SUM < SUM, or SUM = SUM"
    private static void oneComparison() {
        landIs("winds 1<2;", 0);
        landIs("winds 1<2<3;", at(1, "winds 1<2"));
        landIs("winds 1=2=3;", at(1, "winds 1=2"));
        landIs("winds 1<2=3;", at(1, "winds 1<2"));
        landIs("winds (1<2)<3;", 0);
        landIs("winds 1<2 and 3<4;", 0);
        landIs("winds 1<=2;", at(1, "winds 1<"));
    }

    // E, TEST, SUM, PRODUCT, PART: what can't stand there
    private static void whatMayJoin() {
        for (String join : "+ - * < = and or".split(" ")) {
            landIs("winds 1 " + join + ";", at(1, "winds 1 " + join));
            landIs("winds " + join + " 1;", at(1, "winds "));
            landIs("winds 1 " + join + " " + join + " 1;", at(1, "winds 1 " + join + " "));
            landIs("winds 1 " + join + " not 1;", 0);
            landIs("winds 1 " + join + " (1);", 0);
            landIs("winds (1 " + join + ");", at(1, "winds (1 " + join));
        }
        landIs("winds;", at(1, "winds"));
        landIs("winds ();", at(1, "winds ("));
        landIs("winds not;", at(1, "winds not"));
        landIs("winds (1;", at(1, "winds (1"));
        landIs("winds (1 1);", at(1, "winds (1 "));
        landIs("winds 1);", at(1, "winds 1"));
        landIs("winds 1(2);", at(1, "winds 1"));
        landIs("winds goes met;", at(1, "winds goes "));
        landIs("winds not 1 not;", at(1, "winds not 1 "));
        landIs("winds left;", at(1, "winds "));
        landIs("winds going;", at(1, "winds "));
    }

    // "40 lines at most"
    private static void fortyLines() {
        for (int n = 0; n <= 40; n++) {
            weekIs("hour;".repeat(n), 0);
        }
        weekIs("walk p b;wind p q;mend q;hour;".repeat(10), 0);
        weekIs("mend p;".repeat(40) + "\n ", 0);
    }

    // "the first word of a 41st line of a WEEK"
    private static void theFortyFirst() {
        String forty = "walk p b;wind p q;mend q;hour;".repeat(10);
        for (String word : "walk wind mend hour".split(" ")) {
            weekIs(forty + word + " p b;", at(5, forty));
            weekIs(forty + word, at(5, forty));
            weekIs(forty + word + " 7;", at(5, forty));
            weekIs("hour;".repeat(41) + word, at(5, "hour;".repeat(40)));
        }
        weekIs(forty + "x;", at(1, forty));
        weekIs(forty + "street;", at(1, forty));
        weekIs(forty + ";", at(1, forty));
        weekIs(forty + "7;", at(1, forty));
    }

    // "WEEK: any number of walk NAME NAME ; wind NAME NAME ; mend NAME ; hour ;"
    private static void wordsOfAWeek() {
        for (String word : KEPT) {
            boolean begins = "walk wind mend hour".contains(word);
            weekIs(word, begins ? at(1, word) : 1);
        }
        weekIs("p;", 1);
        weekIs("walk p b c;", at(1, "walk p b "));
        weekIs("wind p q r;", at(1, "wind p q "));
        weekIs("mend p q;", at(1, "mend p "));
        weekIs("hour p;", at(1, "hour "));
        weekIs("walk p b", at(1, "walk p b"));
        weekIs("walk p;", at(1, "walk p"));
        weekIs("wind p;", at(1, "wind p"));
        weekIs("mend;", at(1, "mend"));
    }

    // "2 a NAME of no STREET (... walk), of no PERSON (behind ... walk, wind, mend, the second of ... wind) told"
    private static void namesOfAWeek() {
        weekIs("walk v b;", at(2, "walk "));
        weekIs("walk a b;", at(2, "walk "));
        weekIs("walk p q;", at(2, "walk p "));
        weekIs("walk p f;", at(2, "walk p "));
        weekIs("wind v p;", at(2, "wind "));
        weekIs("wind a p;", at(2, "wind "));
        weekIs("wind p v;", at(2, "wind p "));
        weekIs("wind p a;", at(2, "wind p "));
        weekIs("mend v;", at(2, "mend "));
        weekIs("mend a;", at(2, "mend "));
        weekIs("wind p p;", at(3, "wind p "));
        weekIs("wind u u;", at(3, "wind u "));
        weekIs("walk u e;wind u p;wind p u;mend u;walk p a;", 0);
        Check.due("without a LAND", Check.week(new StrangeWinding(), "hour;walk p a;"), at(2, "hour;walk "));
    }

    // "A WEEK is the WEEK."
    private static void aWeekIsTheWeek() {
        StrangeWinding x = Check.told(TWO);
        Check.due("three lines", Check.week(x, "hour;hour;mend p;"), 0);
        Check.due("judged", x.judged(0), 2);
        Check.due("two lines", Check.week(x, "mend p;hour;"), 0);
        Check.due("in place of the elder", x.count(9) * 10 + x.judged(0), 20);
        Check.due("none", Check.week(x, "  "), 0);
        Check.due("an empty WEEK", x.count(9) * 10 + x.judged(0), -1);
        Check.due("how it is stays", x.count(4) + x.count(11), 0);
    }

    // "the end being one at the text's length"
    private static void theEndIsAToken() {
        String whole = "street a;street b;lane a b;person p sun at a left 1;person q sun at b left 1;knows p q;soon 1;snap 1;"
                + "winds not(goes+1)*2<3 and 4;";
        for (int i = 0; i <= whole.length(); i++) {
            String cut = whole.substring(0, i);
            if (cut.endsWith(";") || i == 0) {
                landIs(cut, 0);
                landIs(cut + " \n", 0);
            } else if (i < whole.length() && whole.charAt(i) == ' ') {
                landIs(cut, at(1, cut));
                landIs(cut + "\n\n ", at(1, cut + "\n\n "));
            }
        }
        weekIs("hour", at(1, "hour"));
        weekIs("hour ", at(1, "hour "));
        weekIs("hour;walk p b\n", at(1, "hour;walk p b\n"));
    }

    // The last places that a full TAPE has.
    private static void theLastPlace() {
        landIs(" ".repeat(999) + "!", at(1, " ".repeat(999)));
        landIs(" ".repeat(996) + "soon", at(1, " ".repeat(1000)));
        landIs("soon 3" + " ".repeat(994), at(1, " ".repeat(1000)));
        landIs("soon 3" + " ".repeat(993) + ";", 0);
        landIs("soon 3" + " ".repeat(994) + ";", at(1, " ".repeat(1000)));
        weekIs(" ".repeat(996) + "hour", at(1, " ".repeat(1000)));
    }

    // "street NAME ;  lane NAME NAME ; ...": none of the words of a line may be left out
    private static void noWordIsLeftOut() {
        String[] lines = {"street c ;", "lane a b ;", "person p sun at a left 3 ;", "knows q r ;", "soon 3 ;", "snap 3 ;",
            "winds ( goes ) ;", "winds not goes ;", "winds goes < met ;"};
        String told = "street a;street b;person q sun at a left 3;person r sun at a left 3;";
        for (String line : lines) {
            landIs(told + line, 0);
            String ahead = "";
            for (String word : line.split(" ")) {
                boolean isWhole = word.equals(";") || line.startsWith("winds goes") && word.equals("<");
                landIs(told + ahead + ";", isWhole ? 0 : ahead.isEmpty() ? at(1, told) : at(1, told + ahead));
                landIs(told + ahead, ahead.isEmpty() ? 0 : at(1, told + ahead));
                ahead += word + " ";
            }
        }
        for (String line : new String[] {"walk p a ;", "wind p q ;", "mend p ;", "hour ;"}) {
            weekIs(line, 0);
            String ahead = "";
            for (String word : line.split(" ")) {
                weekIs(ahead + ";", word.equals(";") ? 0 : at(1, ahead));
                weekIs(ahead, ahead.isEmpty() ? 0 : at(1, ahead));
                ahead += word + " ";
            }
        }
    }

    // "of the first token from the left that is wrong"
    private static void theFirstFromTheLeft() {
        landIs("soon 0;street at;!", at(4, "soon "));
        landIs("street a;street a;soon 0;", at(3, "street a;street "));
        landIs("lane a b;soon 0;", at(2, "lane "));
        landIs("lane x x;", at(2, "lane "));
        landIs("street a;lane a x x;", at(2, "street a;lane a "));
        landIs("street a;person p king at b left 100;", at(1, "street a;person p "));
        landIs("street a;person p sun at b left 100;", at(2, "street a;person p sun at "));
        landIs("soon 0 0;", at(4, "soon "));
        landIs("winds 1 +;!", at(1, "winds 1 +"));
        weekIs("wind v v;mend;", at(2, "wind "));
    }

    // "that is wrong the least" of its kinds
    private static void theLeastOfAToken() {
        String forty = "hour;".repeat(40);
        weekIs(forty + "hours;", at(1, forty));
        landIs(STREETS + "streett f;", at(1, STREETS));
        landIs("winds (((((and", at(1, "winds ((((("));
        landIs("winds (((((00001", at(1, "winds ((((("));
        landIs("street a;lane a lane;", at(1, "street a;lane a "));
        landIs("snap 00100;", at(1, "snap "));
    }

    // "LAND: any number of": none, too
    private static void nothingIsALand() {
        StrangeWinding x = Check.told(FULL + "soon 1;snap 1;");
        Check.due("nothing", x.land(), 0);
        Check.alike("as at first", Portrait.takenApart(x), Portrait.takenApart(new StrangeWinding()));
    }

    // "a LAND is the LAND from then on: hour 0, all at their STREETS, hours left as told, nobody wound, nothing snapped,
    // no WEEK, no TALE, nothing can be undone, no MARK is there"
    private static void aLandBeginsAnew() {
        String text = TWO + "person r plain at a left 20;snap 20;soon 9;winds 3;knows q r;";
        StrangeWinding x = Check.told(text);
        x.walk(0, 1);
        x.wind(0, 1);
        x.walk(0, 0);
        Check.due("snaps", x.wind(0, 2), 0);
        x.hour();
        Check.week(x, "hour;mend p;");
        x.tale(0, 1);
        x.tale(1, 1);
        for (int mark = 0; mark < 4; mark++) {
            Check.due("mark", x.mark(mark, false), true);
        }
        Check.due("the same LAND again", Check.land(x, text), 0);
        int[] due = {2, 3, 9, 20, 0, 0, 0, 37, 0, 0, 0, 0, 0};
        for (int what = 0; what < due.length; what++) {
            Check.due("count " + what, x.count(what), due[what]);
        }
        Check.alike("as new", Portrait.takenApart(x), Portrait.takenApart(Check.told(text)));
    }

    // "a LAND is the LAND from then on": no lane, no acquaintance, no law, no number of an elder one is left
    private static void nothingOfAnElderLand() {
        String bare = "street a;street b;person p plain at a left 7;person q plain at a left 8;";
        String rich = bare + "lane a b;knows p q;soon 1;snap 9;winds (goes+thumb*2)*(1+met)-crowd+not not 0+1+1+1+1+1+1;";
        StrangeWinding x = new StrangeWinding();
        for (int i = 0; i < 3; i++) {
            Check.due("rich", Check.land(x, rich), 0);
            Check.due("spoilt", Check.land(x, rich + "!"), at(1, rich));
            Check.due("rich yet", x.count(2) * 100 + x.count(3), 109);
            Check.due("bare", Check.land(x, bare), 0);
            Check.due("no lane", x.lanes(0) + x.lanes(1), 0);
            Check.due("strangers", x.person(0, 5) * 10 + x.person(1, 5), 21);
            Check.due("soon, snap", x.count(2) * 100 + x.count(3), 360);
            Check.due("without winds", x.gives(0, 1) * 100 + x.gives(1, 0), 2223);
            Check.due("rich", Check.land(x, rich), 0);
            Check.due("a shorter law", Check.land(x, bare + "winds 5;"), 0);
            Check.due("by it alone", x.gives(0, 1) * 100 + x.gives(1, 0), 505);
            Check.due("a not", Check.land(x, bare + "winds not 5;"), 0);
            Check.due("a not", Check.land(x, bare + "winds not 5;"), 0);
            Check.due("is", x.gives(0, 1), 0);
            Check.due("no not", Check.land(x, bare + "winds 5;"), 0);
            Check.due("is left", x.gives(0, 1), 5);
        }
    }
}
