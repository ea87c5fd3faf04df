import java.util.Arrays;
import java.util.NoSuchElementException;

/**
 * A land in which watches are wound by strangers: lands and weeks are told on a tape, walks and
 * windings are done by hand, and questions are answered from how it is. See ../shared/DOC.md.
 *
 * <p>All rows are made with the object and used again, so that no call makes anything new.
 */
public final class StrangeWinding {
    public static final int NONE = -1;

    private static final int OTHERS = -2;

    private static final int MAX_SIGNS = 1000;
    private static final int MAX_STREETS = 5;
    private static final int MAX_PEOPLE = 6;
    private static final int MAX_LINES = 40;
    private static final int MAX_UNDONE = 16;
    private static final int MAX_MARKS = 4;
    private static final int MAX_WAIT = 99;
    private static final int MAX_LEFT = 99;
    private static final int MAX_PLANNED = 4;
    private static final int MAX_FORESEEN = 24;
    private static final int MAX_MEETING = 6;
    private static final int MAX_STAKE = 9;
    private static final int MAX_SEED = 9999;
    private static final int MAX_YEARS = 99;
    private static final int MILLION = 1000000;

    private static final int HERMIT = 1;
    private static final int DEAF = 2;
    private static final int SUN = 3;

    private static final int MOST_GIVEN = 40;
    private static final int LOW = 10;

    private static final int CANT_STAND = 1;
    private static final int NOT_TOLD = 2;
    private static final int TOLD_ALREADY = 3;
    private static final int WRONG_NUMBER = 4;
    private static final int TOO_MANY = 5;

    private static final int LINE_WALK = 0;
    private static final int LINE_WIND = 1;
    private static final int LINE_MEND = 2;
    private static final int LINE_HOUR = 3;

    // A law's codes: what is not below 0 is a number itself; facts come before what works on values.
    private static final int CODE_GOES = -1;
    private static final int CODE_THUMB = -2;
    private static final int CODE_MET = -3;
    private static final int CODE_CROWD = -4;
    private static final int CODE_NOT = -5;
    private static final int CODE_AND = -6;
    private static final int CODE_OR = -7;
    private static final int CODE_LESS = -8;
    private static final int CODE_EQUAL = -9;
    private static final int CODE_PLUS = -10;
    private static final int CODE_MINUS = -11;
    private static final int CODE_TIMES = -12;

    private final Tape tape;
    private final Reader reader;
    private Land land;
    private Land spareLand;
    private final Week spareWeek;
    private final Scene scene;
    private final Scene[] marks;
    private final Past past;
    private final State trial;
    private final Planner planner;
    private final Tally tally;
    private final Matcher matcher;
    private final int[] shares;
    private final int[] nextShares;
    private long seed;

    public StrangeWinding() {
        tape = new Tape();
        reader = new Reader(tape);
        land = new Land();
        spareLand = new Land();
        spareWeek = new Week();
        scene = new Scene();
        marks = new Scene[MAX_MARKS];
        for (int i = 0; i < MAX_MARKS; i++) {
            marks[i] = new Scene();
        }
        past = new Past();
        trial = new State();
        planner = new Planner();
        tally = new Tally();
        matcher = new Matcher();
        shares = new int[MAX_STREETS * MAX_STREETS];
        nextShares = new int[MAX_STREETS * MAX_STREETS];
    }

    public int feed(long a, long b, long c) {
        tape.addBytes(a);
        tape.addBytes(b);
        tape.addBytes(c);
        return tape.length;
    }

    public int land() {
        int fault = reader.readLand(spareLand);
        tape.length = 0;
        if (fault != 0) {
            return fault;
        }
        Land elder = land;
        land = spareLand;
        spareLand = elder;
        scene.begin(land);
        past.forget();
        for (int i = 0; i < MAX_MARKS; i++) {
            marks[i].laid = false;
        }
        return 0;
    }

    public int week() {
        int fault = reader.readWeek(land, spareWeek);
        tape.length = 0;
        if (fault == 0) {
            scene.week.copyFrom(spareWeek);
        }
        return fault;
    }

    public int person(int person, int what) {
        if (!isPerson(person)) {
            return NONE;
        }
        State now = scene.state;
        switch (what) {
            case 0:
                return land.kind[person];
            case 1:
                return now.at[person];
            case 2:
                return now.left[person];
            case 3:
                return now.isSnapped(person) ? 1 : 0;
            case 4:
                return now.sits(person) ? 1 : 0;
            case 5:
                return now.strangersOf(land, person);
            default:
                return NONE;
        }
    }

    public int wound(int person, int other) {
        return areTwo(person, other) ? scene.state.wound[person * MAX_PEOPLE + other] : NONE;
    }

    public int lanes(int street) {
        return isStreet(street) ? land.lanes[street] : NONE;
    }

    public int gives(int person, int other) {
        if (!areTwo(person, other)) {
            return NONE;
        }
        return scene.state.hoursGiven(land, person, other, scene.state.left[other]);
    }

    public boolean walk(int person, int street) {
        if (!isPerson(person) || !isStreet(street) || !scene.state.canWalk(land, person, street)) {
            return false;
        }
        past.keep(scene.state);
        scene.state.at[person] = street;
        return true;
    }

    public int wind(int person, int other) {
        if (!areTwo(person, other) || !scene.state.canWind(land, person, other)) {
            return NONE;
        }
        past.keep(scene.state);
        scene.state.turn(land, person, other);
        return scene.state.left[other];
    }

    public boolean mend(int person) {
        if (!isPerson(person) || !scene.state.isSnapped(person)) {
            return false;
        }
        past.keep(scene.state);
        scene.state.repair(person);
        return true;
    }

    public int hour() {
        past.keep(scene.state);
        return scene.state.passHour(land);
    }

    public boolean undo() {
        return past.restore(scene.state);
    }

    public int judged(int what) {
        if (what < 0 || what > 2) {
            return OTHERS;
        }
        int firstLeftOut = NONE;
        int firstSnapping = NONE;
        trial.begin(land);
        for (int line = 0; line < scene.week.lines; line++) {
            int snaps = trial.snaps;
            if (!followLine(scene.week, line) && firstLeftOut == NONE) {
                firstLeftOut = line;
            }
            if (trial.snaps > snaps && firstSnapping == NONE) {
                firstSnapping = line;
            }
        }
        if (what == 0) {
            return firstLeftOut;
        }
        return what == 1 ? firstSnapping : trial.sitters(land);
    }

    public int stops(int person) {
        if (!isPerson(person)) {
            return NONE;
        }
        trial.copyFrom(scene.state);
        for (int hours = 0; hours <= MAX_WAIT; hours++) {
            if (trial.sits(person)) {
                return hours;
            }
            trial.passHour(land);
        }
        return NONE;
    }

    public int august() {
        int all = (1 << land.people) - 1;
        trial.copyFrom(scene.state);
        for (int hours = 0; hours <= MAX_WAIT; hours++) {
            if (trial.sitters(land) == all) {
                return hours;
            }
            trial.passHour(land);
        }
        return NONE;
    }

    public int plan(int person, int hours, int what) {
        if (!isPerson(person) || !isWithin(hours, 1, MAX_PLANNED) || !isWithin(what, 0, hours)) {
            return NONE;
        }
        planner.search(land, scene.state, person, hours);
        return what == 0 ? planner.bestLeft : planner.bestRow[what - 1];
    }

    public int stand(int person) {
        State now = scene.state;
        if (!isPerson(person) || now.sits(person)) {
            return NONE;
        }
        int best = NONE;
        int most = NONE;
        for (int street = 0; street < land.streets; street++) {
            if (street == now.at[person] || now.canWalk(land, person, street)) {
                int offering = Integer.bitCount(now.offeringIn(land, person, street));
                if (offering > most) {
                    most = offering;
                    best = street;
                }
            }
        }
        return best;
    }

    public int fewest(int hours, int what) {
        if (!isWithin(hours, 1, MAX_FORESEEN) || !isWithin(what, 0, 1)) {
            return OTHERS;
        }
        for (int size = 0; size <= land.people; size++) {
            for (int set = 0; set < 1 << land.people; set++) {
                if (Integer.bitCount(set) == size) {
                    int street = streetThatSaves(set, hours);
                    if (street != OTHERS) {
                        return what == 0 ? set : street;
                    }
                }
            }
        }
        return OTHERS;
    }

    public boolean tale(int person, int left) {
        if (!isPerson(person) || !isWithin(left, 0, MAX_LEFT)) {
            return false;
        }
        scene.tales[person] = left;
        return true;
    }

    public int sets(int person, int what) {
        if (!isPerson(person) || !isWithin(what, 0, 2)) {
            return NONE;
        }
        tally.gather(land, scene.state, person, scene.tales[person]);
        if (what == 0) {
            return tally.number;
        }
        if (tally.number == 0) {
            return NONE;
        }
        return what == 1 ? tally.inAll : tally.inSome;
    }

    public int ask(int person) {
        if (!isPerson(person)) {
            return NONE;
        }
        tally.gather(land, scene.state, person, scene.tales[person]);
        int best = NONE;
        int least = tally.number;
        for (int other = 0; other < land.people; other++) {
            int greater = Math.max(tally.having[other], tally.number - tally.having[other]);
            if (other != person && greater < least) {
                least = greater;
                best = other;
            }
        }
        return best;
    }

    public int meet(int person, int other, int hours) {
        if (!areTwo(person, other) || !isWithin(hours, 1, MAX_MEETING)) {
            return NONE;
        }
        int one = scene.state.at[person];
        int two = scene.state.at[other];
        if (one == two) {
            return NONE;
        }
        Arrays.fill(shares, 0);
        shares[one * MAX_STREETS + two] = MILLION;
        for (int i = 0; i < hours; i++) {
            shareOut();
        }
        int met = 0;
        for (int street = 0; street < MAX_STREETS; street++) {
            met += shares[street * MAX_STREETS + street];
        }
        return met;
    }

    public int engaged() {
        int pairs = 0;
        for (int one = 0; one < land.people; one++) {
            for (int other = one + 1; other < land.people; other++) {
                if (scene.state.wound[one * MAX_PEOPLE + other] >= 2
                        && scene.state.wound[other * MAX_PEOPLE + one] >= 2) {
                    pairs++;
                }
            }
        }
        return pairs;
    }

    public int pairs(int person) {
        if (person != NONE && !isPerson(person)) {
            return OTHERS;
        }
        matcher.search(land, scene.state);
        return person == NONE ? matcher.most : matcher.bestRow[person];
    }

    public int tinkers() {
        int bits = 0;
        for (int person = 0; person < land.people; person++) {
            if (scene.state.strangersOf(land, person) == 0) {
                bits |= 1 << person;
            }
        }
        return bits;
    }

    public int rests(int both, int loses, int gets, int what) throws NoSuchElementException {
        if (!isWithin(both, 0, MAX_STAKE) || !isWithin(loses, 0, MAX_STAKE) || !isWithin(gets, 0, MAX_STAKE)) {
            throw new NoSuchElementException();
        }
        int found = 0;
        for (int choices = 0; choices < 4; choices++) {
            if (isAtRest(choices, both, loses, gets)) {
                if (found == what) {
                    return choices;
                }
                found++;
            }
        }
        if (what != NONE) {
            throw new NoSuchElementException();
        }
        return found;
    }

    public int years(int seed, int hours, int what) {
        if (!isWithin(seed, 0, MAX_SEED) || !isWithin(hours, 1, MAX_YEARS) || !isWithin(what, 0, 2)) {
            return NONE;
        }
        this.seed = seed;
        trial.copyFrom(scene.state);
        for (int i = 0; i < hours; i++) {
            passDrawnHour();
        }
        if (what == 0) {
            return trial.windings - scene.state.windings;
        }
        return what == 1 ? trial.snaps - scene.state.snaps : trial.sitters(land);
    }

    public boolean mark(int mark, boolean back) {
        if (!isWithin(mark, 0, MAX_MARKS - 1)) {
            return false;
        }
        if (!back) {
            marks[mark].copyFrom(scene);
            marks[mark].laid = true;
            return true;
        }
        if (!marks[mark].laid) {
            return false;
        }
        scene.copyFrom(marks[mark]);
        past.forget();
        return true;
    }

    public int count(int what) {
        State now = scene.state;
        switch (what) {
            case 0:
                return land.streets;
            case 1:
                return land.people;
            case 2:
                return land.soon;
            case 3:
                return land.snap;
            case 4:
                return now.hours;
            case 5:
                return now.sitters(land);
            case 6:
                return now.snapped;
            case 7:
                return now.leftOfAll(land);
            case 8:
                return now.windings;
            case 9:
                return scene.week.lines;
            case 10:
                return scene.talesTold();
            case 11:
                return past.kept;
            case 12:
                return tape.length;
            default:
                return NONE;
        }
    }

    private static boolean isWithin(int number, int least, int most) {
        return number >= least && number <= most;
    }

    private boolean isPerson(int person) {
        return person >= 0 && person < land.people;
    }

    private boolean isStreet(int street) {
        return street >= 0 && street < land.streets;
    }

    private boolean areTwo(int person, int other) {
        return isPerson(person) && isPerson(other) && person != other;
    }

    /** Does a line of a WEEK in the trial; false: it can't be. */
    private boolean followLine(Week week, int line) {
        int first = week.first[line];
        int second = week.second[line];
        switch (week.verb[line]) {
            case LINE_WALK:
                return trial.walkIfCan(land, first, second);
            case LINE_WIND:
                if (!trial.canWind(land, first, second)) {
                    return false;
                }
                trial.turn(land, first, second);
                return true;
            case LINE_MEND:
                if (!trial.isSnapped(first)) {
                    return false;
                }
                trial.repair(first);
                return true;
            default:
                trial.passHour(land);
                return true;
        }
    }

    /** The first STREET to which the set may WALK so that nobody SITS (NONE: the set is empty); OTHERS: by none. */
    private int streetThatSaves(int set, int hours) {
        if (set == 0) {
            trial.copyFrom(scene.state);
            return endsWithoutSitters(hours) ? NONE : OTHERS;
        }
        for (int street = 0; street < land.streets; street++) {
            if (allCanWalk(set, street)) {
                trial.copyFrom(scene.state);
                for (int person = 0; person < land.people; person++) {
                    if ((set >> person & 1) != 0) {
                        trial.at[person] = street;
                    }
                }
                if (endsWithoutSitters(hours)) {
                    return street;
                }
            }
        }
        return OTHERS;
    }

    private boolean allCanWalk(int set, int street) {
        for (int person = 0; person < land.people; person++) {
            if ((set >> person & 1) != 0 && !scene.state.canWalk(land, person, street)) {
                return false;
            }
        }
        return true;
    }

    private boolean endsWithoutSitters(int hours) {
        for (int i = 0; i < hours; i++) {
            trial.passHour(land);
        }
        return trial.sitters(land) == 0;
    }

    private void shareOut() {
        Arrays.fill(nextShares, 0);
        for (int one = 0; one < land.streets; one++) {
            for (int two = 0; two < land.streets; two++) {
                shareFrom(one, two);
            }
        }
        System.arraycopy(nextShares, 0, shares, 0, shares.length);
    }

    private void shareFrom(int one, int two) {
        int share = shares[one * MAX_STREETS + two];
        if (one == two) {
            nextShares[one * MAX_STREETS + two] += share;
            return;
        }
        int nextOnes = land.lanes[one] | 1 << one;
        int nextTwos = land.lanes[two] | 1 << two;
        int ways = Integer.bitCount(nextOnes) * Integer.bitCount(nextTwos);
        if (share == 0 || ways == 0) {
            return;
        }
        for (int i = 0; i < land.streets; i++) {
            for (int j = 0; j < land.streets; j++) {
                if ((nextOnes >> i & 1) != 0 && (nextTwos >> j & 1) != 0) {
                    nextShares[i * MAX_STREETS + j] += share / ways;
                }
            }
        }
    }

    /** Choices are 2 * the first one's + the other one's; 1 offers. */
    private static boolean isAtRest(int choices, int both, int loses, int gets) {
        int first = choices >> 1;
        int other = choices & 1;
        return payOf(first, other, both, loses, gets) >= payOf(1 - first, other, both, loses, gets)
                && payOf(other, first, both, loses, gets) >= payOf(1 - other, first, both, loses, gets);
    }

    private static int payOf(int own, int others, int both, int loses, int gets) {
        if (own == 1) {
            return others == 1 ? both : -loses;
        }
        return others == 1 ? gets : 0;
    }

    private int drawBelow(int bound) {
        seed = (seed * 1103515245L + 12345L) & 2147483647L;
        return bound > 0 ? (int) (seed / 65536L % bound) : 0;
    }

    private void passDrawnHour() {
        if (land.people > 0) {
            int person = drawBelow(land.people);
            int street = drawBelow(land.streets);
            trial.walkIfCan(land, person, street);
        }
        trial.passHour(land);
        if (drawBelow(9) == 0) {
            for (int person = 0; person < land.people; person++) {
                if (trial.isSnapped(person)) {
                    trial.repair(person);
                }
            }
        }
    }

    /** The TAPE, and the token of it that is looked at. */
    private static final class Tape {
        static final int END = 0;
        static final int WORD = 1;
        static final int NUMBER = 2;
        static final int SIGN = 3;
        static final int NO_TOKEN = 4;
        static final int LONGEST_WORD = 8;
        static final int LONGEST_NUMBER = 4;
        // Each with a blank behind it: that ends it.
        static final String KEPT_WORDS =
                "street lane person at left knows soon snap winds walk wind mend hour plain hermit deaf sun not and or ";

        final char[] signs = new char[MAX_SIGNS];
        int length;
        int kind;
        int place;
        int end;
        int value;
        long word;
        int fault;

        void addBytes(long bytes) {
            for (int shift = 56; shift >= 0; shift -= 8) {
                int sign = (int) (bytes >>> shift) & 255;
                if ((sign == 10 || sign >= 32 && sign <= 126) && length < MAX_SIGNS) {
                    signs[length] = (char) sign;
                    length++;
                }
            }
        }

        void open() {
            end = 0;
            fault = 0;
            next();
        }

        void next() {
            place = end;
            while (place < length && (signs[place] == 10 || signs[place] == 32)) {
                place++;
            }
            end = place;
            if (place >= length) {
                kind = END;
            } else if (isLetter(signs[place])) {
                scanWord();
            } else if (isDigit(signs[place])) {
                scanNumber();
            } else {
                kind = "()<=+-*;".indexOf(signs[place]) >= 0 ? SIGN : NO_TOKEN;
                value = signs[place];
                end = place + 1;
            }
        }

        /** A WORD's letters fit into a long, five bits each, so that NAMES need no texts. */
        private void scanWord() {
            word = 0;
            while (end < length && isLetter(signs[end])) {
                word = word * 32 + (signs[end] - 'a' + 1);
                end++;
            }
            kind = end - place <= LONGEST_WORD ? WORD : NO_TOKEN;
        }

        private void scanNumber() {
            value = 0;
            while (end < length && isDigit(signs[end])) {
                value = value * 10 + (signs[end] - '0');
                end++;
            }
            kind = end - place <= LONGEST_NUMBER ? NUMBER : NO_TOKEN;
        }

        private static boolean isLetter(char sign) {
            return sign >= 'a' && sign <= 'z';
        }

        private static boolean isDigit(char sign) {
            return sign >= '0' && sign <= '9';
        }

        boolean isWord(String text) {
            if (kind != WORD || end - place != text.length()) {
                return false;
            }
            for (int i = 0; i < text.length(); i++) {
                if (signs[place + i] != text.charAt(i)) {
                    return false;
                }
            }
            return true;
        }

        boolean isSign(char sign) {
            return kind == SIGN && value == sign;
        }

        boolean isName() {
            if (kind != WORD) {
                return false;
            }
            long kept = 0;
            for (int i = 0; i < KEPT_WORDS.length(); i++) {
                char sign = KEPT_WORDS.charAt(i);
                if (sign != ' ') {
                    kept = kept * 32 + (sign - 'a' + 1);
                } else if (kept == word) {
                    return false;
                } else {
                    kept = 0;
                }
            }
            return true;
        }

        int kindNamed() {
            if (isWord("plain")) {
                return 0;
            }
            if (isWord("hermit")) {
                return HERMIT;
            }
            if (isWord("deaf")) {
                return DEAF;
            }
            return isWord("sun") ? SUN : NONE;
        }

        boolean refuse(int faultKind) {
            fault = faultKind + 16 * place;
            return false;
        }

        boolean passWord(String text) {
            if (!isWord(text)) {
                return refuse(CANT_STAND);
            }
            next();
            return true;
        }

        boolean passSign(char sign) {
            if (!isSign(sign)) {
                return refuse(CANT_STAND);
            }
            next();
            return true;
        }

        boolean isNumberWithin(int least, int most) {
            if (kind != NUMBER) {
                return refuse(CANT_STAND);
            }
            return isWithin(value, least, most) || refuse(WRONG_NUMBER);
        }
    }

    /** What a LAND tells: it never changes until another one is told. */
    private static final class Land {
        // Four operands may wait at each of the levels of ( ), and one more on top.
        static final int DEEPEST = 32;

        final long[] streetNames = new long[MAX_STREETS];
        final int[] lanes = new int[MAX_STREETS];
        final long[] personNames = new long[MAX_PEOPLE];
        final int[] kind = new int[MAX_PEOPLE];
        final int[] home = new int[MAX_PEOPLE];
        final int[] leftAtFirst = new int[MAX_PEOPLE];
        final int[] known = new int[MAX_PEOPLE];
        final int[] codes = new int[MAX_SIGNS];
        final int[] values = new int[DEEPEST];
        int streets;
        int people;
        int soon;
        int snap;
        int codeLength;

        Land() {
            soon = 3;
            snap = 60;
        }

        void clear() {
            streets = 0;
            people = 0;
            soon = 3;
            snap = 60;
            codeLength = 0;
        }

        void addStreet(long name) {
            if (streets < MAX_STREETS) {
                streetNames[streets] = name;
                lanes[streets] = 0;
                streets++;
            }
        }

        void addPerson(long name) {
            if (people < MAX_PEOPLE) {
                personNames[people] = name;
                known[people] = 0;
                people++;
            }
        }

        int streetNamed(long name) {
            for (int i = 0; i < streets; i++) {
                if (streetNames[i] == name) {
                    return i;
                }
            }
            return NONE;
        }

        int personNamed(long name) {
            for (int i = 0; i < people; i++) {
                if (personNames[i] == name) {
                    return i;
                }
            }
            return NONE;
        }

        void addCode(int code) {
            if (codeLength < MAX_SIGNS) {
                codes[codeLength] = code;
                codeLength++;
            }
        }

        /** What the E of winds tells, before any limit. */
        int lawTells(int goes, int thumb, int met, int crowd) {
            if (codeLength == 0) {
                return 30 - goes;
            }
            int height = 0;
            for (int i = 0; i < codeLength; i++) {
                int code = codes[i];
                if (code >= CODE_CROWD && height < DEEPEST) {
                    values[height] = code >= 0 ? code : factOf(code, goes, thumb, met, crowd);
                    height++;
                } else if (code == CODE_NOT && height > 0) {
                    values[height - 1] = values[height - 1] == 0 ? 1 : 0;
                } else if (code < CODE_NOT && height > 1) {
                    height--;
                    values[height - 1] = joined(code, values[height - 1], values[height]);
                }
            }
            return values[0];
        }

        private static int factOf(int code, int goes, int thumb, int met, int crowd) {
            switch (code) {
                case CODE_GOES:
                    return goes;
                case CODE_THUMB:
                    return thumb;
                case CODE_MET:
                    return met;
                default:
                    return crowd;
            }
        }

        private static int joined(int code, int left, int right) {
            switch (code) {
                case CODE_AND:
                    return left != 0 && right != 0 ? 1 : 0;
                case CODE_OR:
                    return left != 0 || right != 0 ? 1 : 0;
                case CODE_LESS:
                    return left < right ? 1 : 0;
                case CODE_EQUAL:
                    return left == right ? 1 : 0;
                case CODE_PLUS:
                    return left + right;
                case CODE_MINUS:
                    return left - right;
                default:
                    return left * right;
            }
        }
    }

    /** The lines of a WEEK. */
    private static final class Week {
        final int[] verb = new int[MAX_LINES];
        final int[] first = new int[MAX_LINES];
        final int[] second = new int[MAX_LINES];
        int lines;

        void addLine(int lineVerb, int lineFirst, int lineSecond) {
            if (lines < MAX_LINES) {
                verb[lines] = lineVerb;
                first[lines] = lineFirst;
                second[lines] = lineSecond;
                lines++;
            }
        }

        void copyFrom(Week other) {
            lines = other.lines;
            System.arraycopy(other.verb, 0, verb, 0, lines);
            System.arraycopy(other.first, 0, first, 0, lines);
            System.arraycopy(other.second, 0, second, 0, lines);
        }
    }

    /** Reads the TAPE as a LAND or a WEEK; it stops at the first token that is wrong. */
    private static final class Reader {
        final Tape tape;
        final LawReader lawReader;
        boolean soonTold;
        boolean snapTold;

        Reader(Tape tape) {
            this.tape = tape;
            lawReader = new LawReader(tape);
        }

        /** 0, or the FAULT. */
        int readLand(Land land) {
            land.clear();
            soonTold = false;
            snapTold = false;
            tape.open();
            for (int i = 0; i < MAX_SIGNS && tape.kind != Tape.END; i++) {
                if (!readOfLand(land) || !tape.passSign(';')) {
                    return tape.fault;
                }
            }
            return 0;
        }

        private boolean readOfLand(Land land) {
            if (tape.isWord("street")) {
                return readStreet(land);
            }
            if (tape.isWord("lane")) {
                return readPair(land, true);
            }
            if (tape.isWord("person")) {
                return readPerson(land);
            }
            if (tape.isWord("knows")) {
                return readPair(land, false);
            }
            if (tape.isWord("soon")) {
                return readSoon(land);
            }
            if (tape.isWord("snap")) {
                return readSnap(land);
            }
            return tape.isWord("winds") ? lawReader.readLaw(land) : tape.refuse(CANT_STAND);
        }

        private boolean readStreet(Land land) {
            if (land.streets >= MAX_STREETS) {
                return tape.refuse(TOO_MANY);
            }
            tape.next();
            if (!isNewName(land)) {
                return false;
            }
            land.addStreet(tape.word);
            tape.next();
            return true;
        }

        /** A pair of STREETS (lane) or of PEOPLE (knows), that is not told yet. */
        private boolean readPair(Land land, boolean ofStreets) {
            int[] told = ofStreets ? land.lanes : land.known;
            tape.next();
            int first = numberHere(land, ofStreets);
            if (first == NONE) {
                return false;
            }
            tape.next();
            int second = numberHere(land, ofStreets);
            if (second == NONE) {
                return false;
            }
            if (first == second || (told[first] >> second & 1) != 0) {
                return tape.refuse(TOLD_ALREADY);
            }
            told[first] |= 1 << second;
            told[second] |= 1 << first;
            tape.next();
            return true;
        }

        private boolean readPerson(Land land) {
            int number = land.people;
            if (number >= MAX_PEOPLE) {
                return tape.refuse(TOO_MANY);
            }
            tape.next();
            if (!isNewName(land)) {
                return false;
            }
            land.addPerson(tape.word);
            tape.next();
            land.kind[number] = tape.kindNamed();
            if (land.kind[number] == NONE) {
                return tape.refuse(CANT_STAND);
            }
            tape.next();
            if (!tape.passWord("at")) {
                return false;
            }
            land.home[number] = numberHere(land, true);
            if (land.home[number] == NONE) {
                return false;
            }
            tape.next();
            if (!tape.passWord("left") || !tape.isNumberWithin(0, 99)) {
                return false;
            }
            land.leftAtFirst[number] = tape.value;
            tape.next();
            return true;
        }

        private boolean readSoon(Land land) {
            if (soonTold) {
                return tape.refuse(TOLD_ALREADY);
            }
            soonTold = true;
            tape.next();
            if (!tape.isNumberWithin(1, 9)) {
                return false;
            }
            land.soon = tape.value;
            tape.next();
            return true;
        }

        private boolean readSnap(Land land) {
            if (snapTold) {
                return tape.refuse(TOLD_ALREADY);
            }
            snapTold = true;
            tape.next();
            if (!tape.isNumberWithin(1, 99)) {
                return false;
            }
            land.snap = tape.value;
            tape.next();
            return true;
        }

        /** 0, or the FAULT. */
        int readWeek(Land land, Week week) {
            week.lines = 0;
            tape.open();
            for (int i = 0; i < MAX_SIGNS && tape.kind != Tape.END; i++) {
                if (!readOfWeek(land, week) || !tape.passSign(';')) {
                    return tape.fault;
                }
            }
            return 0;
        }

        private boolean readOfWeek(Land land, Week week) {
            int verb = verbHere();
            if (verb == NONE) {
                return tape.refuse(CANT_STAND);
            }
            if (week.lines >= MAX_LINES) {
                return tape.refuse(TOO_MANY);
            }
            tape.next();
            int first = 0;
            int second = 0;
            if (verb != LINE_HOUR) {
                first = numberHere(land, false);
                if (first == NONE) {
                    return false;
                }
                tape.next();
            }
            if (verb == LINE_WALK || verb == LINE_WIND) {
                second = numberHere(land, verb == LINE_WALK);
                if (second == NONE) {
                    return false;
                }
                if (verb == LINE_WIND && first == second) {
                    return tape.refuse(TOLD_ALREADY);
                }
                tape.next();
            }
            week.addLine(verb, first, second);
            return true;
        }

        private int verbHere() {
            if (tape.isWord("walk")) {
                return LINE_WALK;
            }
            if (tape.isWord("wind")) {
                return LINE_WIND;
            }
            if (tape.isWord("mend")) {
                return LINE_MEND;
            }
            return tape.isWord("hour") ? LINE_HOUR : NONE;
        }

        private boolean isNewName(Land land) {
            if (!tape.isName()) {
                return tape.refuse(CANT_STAND);
            }
            boolean told = land.streetNamed(tape.word) != NONE || land.personNamed(tape.word) != NONE;
            return !told || tape.refuse(TOLD_ALREADY);
        }

        /** The number of the STREET, or PERSON, whose NAME is looked at; NONE: it is refused. */
        private int numberHere(Land land, boolean ofStreet) {
            if (!tape.isName()) {
                tape.refuse(CANT_STAND);
                return NONE;
            }
            int number = ofStreet ? land.streetNamed(tape.word) : land.personNamed(tape.word);
            if (number == NONE) {
                tape.refuse(NOT_TOLD);
            }
            return number;
        }
    }

    /** Reads an E into codes that come behind what they work on, so that telling it needs no tree. */
    private static final class LawReader {
        static final int ANY = 0;
        static final int TEST = 1;
        static final int SUM = 2;
        static final int PRODUCT = 3;
        static final int DEPTH = 5;

        final Tape tape;

        LawReader(Tape tape) {
            this.tape = tape;
        }

        boolean readLaw(Land land) {
            if (land.codeLength > 0) {
                return tape.refuse(TOLD_ALREADY);
            }
            tape.next();
            return readFrom(ANY, 0, land);
        }

        /** Depth is how many of not and ( ) it lies within: that ends the recursion. */
        private boolean readFrom(int level, int depth, Land land) {
            if (level > PRODUCT) {
                return readPart(depth, land);
            }
            if (!readFrom(level + 1, depth, land)) {
                return false;
            }
            for (int i = 0; i < MAX_SIGNS; i++) {
                int code = joiningCode(level);
                if (code == 0) {
                    return true;
                }
                tape.next();
                if (!readFrom(level + 1, depth, land)) {
                    return false;
                }
                land.addCode(code);
                if (level == TEST) {
                    return true;
                }
            }
            return true;
        }

        private boolean readPart(int depth, Land land) {
            boolean isNot = tape.isWord("not");
            boolean isOpening = tape.isSign('(');
            int code = valueCode();
            if (!isNot && !isOpening && code == CODE_NOT) {
                return tape.refuse(CANT_STAND);
            }
            if (depth >= DEPTH) {
                return tape.refuse(TOO_MANY);
            }
            tape.next();
            if (isOpening) {
                return readFrom(ANY, depth + 1, land) && tape.passSign(')');
            }
            if (isNot && !readPart(depth + 1, land)) {
                return false;
            }
            land.addCode(code);
            return true;
        }

        /** CODE_NOT: the token is no NUMBER and no fact. */
        private int valueCode() {
            if (tape.kind == Tape.NUMBER) {
                return tape.value;
            }
            if (tape.isWord("goes")) {
                return CODE_GOES;
            }
            if (tape.isWord("thumb")) {
                return CODE_THUMB;
            }
            if (tape.isWord("met")) {
                return CODE_MET;
            }
            return tape.isWord("crowd") ? CODE_CROWD : CODE_NOT;
        }

        /** 0: no sign or word that joins at this level. */
        private int joiningCode(int level) {
            switch (level) {
                case ANY:
                    return tape.isWord("and") ? CODE_AND : tape.isWord("or") ? CODE_OR : 0;
                case TEST:
                    return tape.isSign('<') ? CODE_LESS : tape.isSign('=') ? CODE_EQUAL : 0;
                case SUM:
                    return tape.isSign('+') ? CODE_PLUS : tape.isSign('-') ? CODE_MINUS : 0;
                default:
                    return tape.isSign('*') ? CODE_TIMES : 0;
            }
        }
    }

    /** How it is: who is where, how long each watch goes yet, who has wound whose. */
    private static final class State {
        final int[] at = new int[MAX_PEOPLE];
        final int[] left = new int[MAX_PEOPLE];
        final int[] wound = new int[MAX_PEOPLE * MAX_PEOPLE];
        int snapped;
        int hours;
        int windings;
        int snaps;

        void begin(Land land) {
            System.arraycopy(land.home, 0, at, 0, MAX_PEOPLE);
            System.arraycopy(land.leftAtFirst, 0, left, 0, MAX_PEOPLE);
            Arrays.fill(wound, 0);
            snapped = 0;
            hours = 0;
            windings = 0;
            snaps = 0;
        }

        void copyFrom(State other) {
            System.arraycopy(other.at, 0, at, 0, MAX_PEOPLE);
            System.arraycopy(other.left, 0, left, 0, MAX_PEOPLE);
            System.arraycopy(other.wound, 0, wound, 0, MAX_PEOPLE * MAX_PEOPLE);
            snapped = other.snapped;
            hours = other.hours;
            windings = other.windings;
            snaps = other.snaps;
        }

        boolean isSnapped(int person) {
            return (snapped >> person & 1) != 0;
        }

        boolean sits(int person) {
            return left[person] == 0 || isSnapped(person);
        }

        int sitters(Land land) {
            int bits = 0;
            for (int person = 0; person < land.people; person++) {
                if (sits(person)) {
                    bits |= 1 << person;
                }
            }
            return bits;
        }

        int leftOfAll(Land land) {
            int sum = 0;
            for (int person = 0; person < land.people; person++) {
                sum += left[person];
            }
            return sum;
        }

        private int windingsOfTwo(int one, int other) {
            return wound[one * MAX_PEOPLE + other] + wound[other * MAX_PEOPLE + one];
        }

        boolean areStrangers(Land land, int one, int other) {
            return one != other && (land.known[one] >> other & 1) == 0 && windingsOfTwo(one, other) < land.soon;
        }

        int strangersOf(Land land, int person) {
            int bits = 0;
            for (int other = 0; other < land.people; other++) {
                if (areStrangers(land, person, other)) {
                    bits |= 1 << other;
                }
            }
            return bits;
        }

        /** STRANGERS to one in a STREET, who are no hermits and do not SIT, as bits. */
        int offeringIn(Land land, int person, int street) {
            int bits = 0;
            for (int other = 0; other < land.people; other++) {
                if (at[other] == street && land.kind[other] != HERMIT && !sits(other)
                        && areStrangers(land, person, other)) {
                    bits |= 1 << other;
                }
            }
            return bits;
        }

        boolean canWalk(Land land, int person, int street) {
            return !sits(person) && (land.lanes[at[person]] >> street & 1) != 0;
        }

        boolean walkIfCan(Land land, int person, int street) {
            if (!canWalk(land, person, street)) {
                return false;
            }
            at[person] = street;
            return true;
        }

        boolean canWind(Land land, int winder, int owner) {
            return at[winder] == at[owner] && land.kind[winder] != HERMIT && !sits(winder)
                    && land.kind[owner] != SUN && !isSnapped(owner) && areStrangers(land, winder, owner);
        }

        private int crowdAround(Land land, int winder, int owner) {
            int crowd = 0;
            for (int other = 0; other < land.people; other++) {
                if (other != winder && other != owner && at[other] == at[owner]) {
                    crowd++;
                }
            }
            return crowd;
        }

        /** By what a winding would be if the owner's watch had so many hours left. */
        int hoursGiven(Land land, int winder, int owner, int goes) {
            int told = land.lawTells(goes, left[winder], windingsOfTwo(winder, owner),
                    crowdAround(land, winder, owner));
            int given = Math.max(0, Math.min(MOST_GIVEN, told));
            return land.kind[winder] == DEAF ? given / 2 : given;
        }

        void turn(Land land, int winder, int owner) {
            left[owner] += hoursGiven(land, winder, owner, left[owner]);
            if (left[owner] > land.snap) {
                left[owner] = 0;
                snapped |= 1 << owner;
                snaps++;
            }
            wound[winder * MAX_PEOPLE + owner]++;
            windings++;
        }

        void repair(int person) {
            snapped &= ~(1 << person);
            left[person] = 1;
        }

        /** How many windings. */
        int passHour(Land land) {
            int before = windings;
            for (int one = 0; one < land.people; one++) {
                for (int other = one + 1; other < land.people; other++) {
                    if (left[other] < LOW && canWind(land, one, other)) {
                        turn(land, one, other);
                    }
                    if (left[one] < LOW && canWind(land, other, one)) {
                        turn(land, other, one);
                    }
                }
            }
            for (int person = 0; person < land.people; person++) {
                left[person] = Math.max(0, left[person] - 1);
            }
            hours++;
            return windings - before;
        }
    }

    /** How it is, the WEEK and the TALES: what a MARK holds. */
    private static final class Scene {
        final State state;
        final Week week;
        final int[] tales;
        boolean laid;

        Scene() {
            state = new State();
            week = new Week();
            tales = new int[MAX_PEOPLE];
            Arrays.fill(tales, NONE);
        }

        void begin(Land land) {
            state.begin(land);
            week.lines = 0;
            Arrays.fill(tales, NONE);
        }

        void copyFrom(Scene other) {
            state.copyFrom(other.state);
            week.copyFrom(other.week);
            System.arraycopy(other.tales, 0, tales, 0, MAX_PEOPLE);
        }

        int talesTold() {
            int told = 0;
            for (int person = 0; person < MAX_PEOPLE; person++) {
                if (tales[person] != NONE) {
                    told++;
                }
            }
            return told;
        }
    }

    /** How it was ahead of the last doings: a ring, so that the eldest gives way. */
    private static final class Past {
        final State[] ring;
        int newest;
        int kept;

        Past() {
            ring = new State[MAX_UNDONE];
            for (int i = 0; i < MAX_UNDONE; i++) {
                ring[i] = new State();
            }
        }

        void forget() {
            kept = 0;
        }

        void keep(State state) {
            newest = (newest + 1) % MAX_UNDONE;
            ring[newest].copyFrom(state);
            kept = Math.min(MAX_UNDONE, kept + 1);
        }

        boolean restore(State state) {
            if (kept == 0) {
                return false;
            }
            state.copyFrom(ring[newest]);
            newest = (newest + MAX_UNDONE - 1) % MAX_UNDONE;
            kept--;
            return true;
        }
    }

    /** Tries all rows of STREETS in their order, so that the first of equal ones is kept. */
    private static final class Planner {
        final State[] steps;
        final int[] row = new int[MAX_PLANNED];
        final int[] bestRow = new int[MAX_PLANNED];
        int bestLeft;
        int hours;

        Planner() {
            steps = new State[MAX_PLANNED + 1];
            for (int i = 0; i <= MAX_PLANNED; i++) {
                steps[i] = new State();
            }
        }

        void search(Land land, State now, int person, int hoursAhead) {
            steps[0].copyFrom(now);
            bestLeft = NONE;
            hours = Math.min(MAX_PLANNED, hoursAhead);
            tryFrom(land, person, 0);
        }

        private void tryFrom(Land land, int person, int depth) {
            State state = steps[depth];
            if (depth >= hours) {
                if (state.left[person] > bestLeft) {
                    bestLeft = state.left[person];
                    System.arraycopy(row, 0, bestRow, 0, MAX_PLANNED);
                }
                return;
            }
            for (int street = 0; street < land.streets; street++) {
                if (street == state.at[person] || state.canWalk(land, person, street)) {
                    row[depth] = street;
                    steps[depth + 1].copyFrom(state);
                    steps[depth + 1].at[person] = street;
                    steps[depth + 1].passHour(land);
                    tryFrom(land, person, depth + 1);
                }
            }
        }
    }

    /** The SETS of a person: how many, who is in all, who in some, and how many have each one. */
    private static final class Tally {
        final int[] having = new int[MAX_PEOPLE];
        int number;
        int inAll;
        int inSome;

        void gather(Land land, State state, int person, int tale) {
            int offering = state.offeringIn(land, person, state.at[person]);
            Arrays.fill(having, 0);
            number = 0;
            inAll = offering;
            inSome = 0;
            for (int set = 0; set <= offering; set++) {
                boolean isOfThem = (set & ~offering) == 0;
                if (isOfThem && (tale == NONE || tale == leftBy(land, state, person, set))) {
                    addSet(set);
                }
            }
        }

        private static int leftBy(Land land, State state, int person, int set) {
            int left = state.left[person];
            boolean isSnapped = state.isSnapped(person);
            for (int other = 0; other < land.people; other++) {
                if ((set >> other & 1) != 0 && !isSnapped) {
                    left += state.hoursGiven(land, other, person, left);
                    isSnapped = left > land.snap;
                }
            }
            return isSnapped ? 0 : left;
        }

        private void addSet(int set) {
            number++;
            inAll &= set;
            inSome |= set;
            for (int other = 0; other < MAX_PEOPLE; other++) {
                having[other] += set >> other & 1;
            }
        }
    }

    /** Tries all rows of who is with whom in their order, so that the first of equal ones is kept. */
    private static final class Matcher {
        final int[] row = new int[MAX_PEOPLE];
        final int[] bestRow = new int[MAX_PEOPLE];
        int most;

        void search(Land land, State state) {
            most = NONE;
            for (int person = 0; person < MAX_PEOPLE; person++) {
                row[person] = person;
            }
            tryFrom(land, state, 0, 0);
        }

        private void tryFrom(Land land, State state, int person, int found) {
            if (person >= land.people) {
                if (found > most) {
                    most = found;
                    System.arraycopy(row, 0, bestRow, 0, MAX_PEOPLE);
                }
                return;
            }
            tryFrom(land, state, person + 1, found);
            if (row[person] != person) {
                return;
            }
            for (int other = person + 1; other < land.people; other++) {
                if (row[other] == other && state.at[other] == state.at[person]
                        && state.areStrangers(land, person, other)) {
                    row[person] = other;
                    row[other] = person;
                    tryFrom(land, state, person + 1, found + 1);
                    row[person] = person;
                    row[other] = other;
                }
            }
        }
    }
}
