import java.util.ArrayDeque;
import java.util.ArrayList;
import java.util.Arrays;
import java.util.Comparator;
import java.util.Deque;
import java.util.HashMap;
import java.util.List;
import java.util.Map;
import java.util.Set;
import java.util.TreeMap;
import java.util.TreeSet;
import java.util.regex.Matcher;
import java.util.regex.Pattern;

/** The document told a second time, with the whole Java library and no care for speed or room. */
final class Model {
    interface Law {
        int tell(int goes, int thumb, int met, int crowd);
    }

    static final class Fault extends Exception {
        private static final long serialVersionUID = 1;
        final int code;

        Fault(int kind, int place) {
            code = kind + 16 * place;
        }
    }

    static final class Token {
        final String text;
        final char type;
        final int place;

        Token(String text, char type, int place) {
            this.text = text;
            this.type = type;
            this.place = place;
        }
    }

    static final class Person {
        String name;
        int kind;
        int home;
        int left;
    }

    static final class Land {
        List<String> streets = new ArrayList<>();
        List<Person> people = new ArrayList<>();
        Set<String> lanes = new TreeSet<>();
        Set<String> known = new TreeSet<>();
        int soon = 3;
        int snap = 60;
        Law law = (goes, thumb, met, crowd) -> 30 - goes;

        boolean lane(int a, int b) {
            return lanes.contains(pair(a, b));
        }

        int person(String name) {
            for (int i = 0; i < people.size(); i++) {
                if (people.get(i).name.equals(name)) {
                    return i;
                }
            }
            return -1;
        }
    }

    static String pair(int a, int b) {
        return Math.min(a, b) + "," + Math.max(a, b);
    }

    static final class Now {
        int[] at;
        int[] left;
        boolean[] snapped;
        int[][] wound;
        int hour;
        int snaps;

        Now(Land land) {
            int n = land.people.size();
            at = land.people.stream().mapToInt(p -> p.home).toArray();
            left = land.people.stream().mapToInt(p -> p.left).toArray();
            snapped = new boolean[n];
            wound = new int[n][n];
        }

        Now(Now o) {
            at = o.at.clone();
            left = o.left.clone();
            snapped = o.snapped.clone();
            wound = Arrays.stream(o.wound).map(int[]::clone).toArray(int[][]::new);
            hour = o.hour;
            snaps = o.snaps;
        }

        int windings() {
            return Arrays.stream(wound).flatMapToInt(Arrays::stream).sum();
        }
    }

    static final class Mark {
        Now now;
        List<String[]> week;
        Map<Integer, Integer> tales;
    }

    private static final Set<String> KEPT = Set.of("street", "lane", "person", "at", "left", "knows", "soon", "snap",
            "winds", "walk", "wind", "mend", "hour", "plain", "hermit", "deaf", "sun", "not", "and", "or");
    private static final List<String> KINDS = List.of("plain", "hermit", "deaf", "sun");

    private String tape = "";
    private Land land = new Land();
    private Now now = new Now(land);
    private List<String[]> week = new ArrayList<>();
    private Map<Integer, Integer> tales = new TreeMap<>();
    private final Deque<Now> past = new ArrayDeque<>();
    private final Mark[] marks = new Mark[4];
    private List<Token> tokens;
    private int next;

    // ---- reading

    int feed(long... rows) {
        for (long row : rows) {
            for (int i = 7; i >= 0; i--) {
                int sign = (int) (row >> 8 * i & 0xFF);
                if (tape.length() < 1000 && (sign == 10 || sign > 31 && sign < 127)) {
                    tape += (char) sign;
                }
            }
        }
        return tape.length();
    }

    private void lex() {
        tokens = new ArrayList<>();
        next = 0;
        Matcher m = Pattern.compile("[\\n ]+|([a-z]+)|([0-9]+)|([()<=+*;-])|.").matcher(tape);
        while (m.find()) {
            String t = m.group();
            if (m.group(1) != null) {
                tokens.add(new Token(t, t.length() < 9 ? 'w' : 'x', m.start()));
            } else if (m.group(2) != null) {
                tokens.add(new Token(t, t.length() < 5 ? 'n' : 'x', m.start()));
            } else if (m.group(3) != null) {
                tokens.add(new Token(t, 's', m.start()));
            } else if (!t.isBlank()) {
                tokens.add(new Token(t, 'x', m.start()));
            }
        }
        tokens.add(new Token("", 'e', tape.length()));
    }

    private Token look() {
        return tokens.get(next);
    }

    private boolean sees(String text) {
        return look().text.equals(text) && look().type != 'e' && look().type != 'x';
    }

    private Fault fault(int kind) {
        return new Fault(kind, look().place);
    }

    private void take(String text) throws Fault {
        if (!sees(text)) {
            throw fault(1);
        }
        next++;
    }

    private int number(int least, int most) throws Fault {
        if (look().type != 'n') {
            throw fault(1);
        }
        int n = Integer.parseInt(look().text);
        if (n < least || n > most) {
            throw fault(4);
        }
        next++;
        return n;
    }

    private String name() throws Fault {
        if (look().type != 'w' || KEPT.contains(look().text)) {
            throw fault(1);
        }
        return look().text;
    }

    private String newName(Land l) throws Fault {
        String n = name();
        if (l.streets.contains(n) || l.person(n) >= 0) {
            throw fault(3);
        }
        next++;
        return n;
    }

    private int street(Land l) throws Fault {
        int i = l.streets.indexOf(name());
        if (i < 0) {
            throw fault(2);
        }
        next++;
        return i;
    }

    private int person(Land l) throws Fault {
        int i = l.person(name());
        if (i < 0) {
            throw fault(2);
        }
        next++;
        return i;
    }

    private void told(boolean already) throws Fault {
        if (already) {
            next--;
            throw fault(3);
        }
    }

    int land() {
        lex();
        tape = "";
        Land l = new Land();
        try {
            Set<String> once = new TreeSet<>();
            while (look().type != 'e') {
                landLine(l, once);
                take(";");
            }
        } catch (Fault f) {
            return f.code;
        }
        land = l;
        now = new Now(l);
        week = new ArrayList<>();
        tales = new TreeMap<>();
        past.clear();
        Arrays.fill(marks, null);
        return 0;
    }

    private void landLine(Land l, Set<String> once) throws Fault {
        String word = look().type == 'w' ? look().text : "";
        switch (word) {
            case "street" -> {
                if (l.streets.size() == 5) {
                    throw fault(5);
                }
                next++;
                l.streets.add(newName(l));
            }
            case "lane" -> {
                next++;
                int a = street(l);
                int b = street(l);
                told(a == b || l.lane(a, b));
                l.lanes.add(pair(a, b));
            }
            case "person" -> {
                if (l.people.size() == 6) {
                    throw fault(5);
                }
                next++;
                Person p = new Person();
                p.name = newName(l);
                p.kind = KINDS.indexOf(look().text);
                if (p.kind < 0) {
                    throw fault(1);
                }
                next++;
                take("at");
                p.home = street(l);
                take("left");
                p.left = number(0, 99);
                l.people.add(p);
            }
            case "knows" -> {
                next++;
                int a = person(l);
                int b = person(l);
                told(a == b || l.known.contains(pair(a, b)));
                l.known.add(pair(a, b));
            }
            case "soon", "snap", "winds" -> {
                if (!once.add(word)) {
                    throw fault(3);
                }
                next++;
                if (word.equals("soon")) {
                    l.soon = number(1, 9);
                } else if (word.equals("snap")) {
                    l.snap = number(1, 99);
                } else {
                    l.law = any(0);
                }
            }
            default -> throw fault(1);
        }
    }

    private Law any(int within) throws Fault {
        Law a = test(within);
        while (sees("and") || sees("or")) {
            boolean and = sees("and");
            next++;
            Law x = a;
            Law y = test(within);
            a = (g, t, m, c) -> {
                boolean p = x.tell(g, t, m, c) != 0;
                boolean q = y.tell(g, t, m, c) != 0;
                return (and ? p && q : p || q) ? 1 : 0;
            };
        }
        return a;
    }

    private Law test(int within) throws Fault {
        Law x = sum(within);
        if (!sees("<") && !sees("=")) {
            return x;
        }
        boolean less = sees("<");
        next++;
        Law y = sum(within);
        return (g, t, m, c) -> {
            int p = x.tell(g, t, m, c);
            int q = y.tell(g, t, m, c);
            return (less ? p < q : p == q) ? 1 : 0;
        };
    }

    private Law sum(int within) throws Fault {
        Law a = product(within);
        while (sees("+") || sees("-")) {
            int by = sees("+") ? 1 : -1;
            next++;
            Law x = a;
            Law y = product(within);
            a = (g, t, m, c) -> x.tell(g, t, m, c) + by * y.tell(g, t, m, c);
        }
        return a;
    }

    private Law product(int within) throws Fault {
        Law a = part(within);
        while (sees("*")) {
            next++;
            Law x = a;
            Law y = part(within);
            a = (g, t, m, c) -> x.tell(g, t, m, c) * y.tell(g, t, m, c);
        }
        return a;
    }

    private Law part(int within) throws Fault {
        Token token = look();
        boolean starts = token.type == 'n' || List.of("goes", "thumb", "met", "crowd", "not", "(").contains(token.text);
        if (!starts) {
            throw fault(1);
        }
        if (within >= 5) {
            throw fault(5);
        }
        next++;
        if (token.type == 'n') {
            int n = Integer.parseInt(token.text);
            return (g, t, m, c) -> n;
        }
        switch (token.text) {
            case "goes":
                return (g, t, m, c) -> g;
            case "thumb":
                return (g, t, m, c) -> t;
            case "met":
                return (g, t, m, c) -> m;
            case "crowd":
                return (g, t, m, c) -> c;
            case "not":
                Law x = part(within + 1);
                return (g, t, m, c) -> x.tell(g, t, m, c) == 0 ? 1 : 0;
            default:
                Law y = any(within + 1);
                take(")");
                return y;
        }
    }

    int week() {
        lex();
        tape = "";
        List<String[]> lines = new ArrayList<>();
        try {
            while (look().type != 'e') {
                String verb = look().text;
                if (!List.of("walk", "wind", "mend", "hour").contains(verb)) {
                    throw fault(1);
                }
                if (lines.size() == 40) {
                    throw fault(5);
                }
                next++;
                int a = verb.equals("hour") ? -1 : person(land);
                int b = verb.equals("walk") ? street(land) : verb.equals("wind") ? person(land) : -1;
                told(verb.equals("wind") && a == b);
                take(";");
                lines.add(new String[] {verb, "" + a, "" + b});
            }
        } catch (Fault f) {
            return f.code;
        }
        week = lines;
        return 0;
    }

    // ---- rules

    private boolean isPerson(int p) {
        return p >= 0 && p < land.people.size();
    }

    private boolean two(int p, int o) {
        return isPerson(p) && isPerson(o) && p != o;
    }

    private boolean strangers(Now s, int a, int b) {
        return a != b && !land.known.contains(pair(a, b)) && s.wound[a][b] + s.wound[b][a] < land.soon;
    }

    private boolean sits(Now s, int p) {
        return s.snapped[p] || s.left[p] == 0;
    }

    private int kind(int p) {
        return land.people.get(p).kind;
    }

    private int give(Now s, int p, int o, int goes) {
        int crowd = 0;
        for (int k = 0; k < s.at.length; k++) {
            crowd += k != p && k != o && s.at[k] == s.at[o] ? 1 : 0;
        }
        int e = land.law.tell(goes, s.left[p], s.wound[p][o] + s.wound[o][p], crowd);
        e = e < 0 ? 0 : e > 40 ? 40 : e;
        return kind(p) == 2 ? e / 2 : e;
    }

    private boolean doWalk(Now s, int p, int street) {
        if (sits(s, p) || s.at[p] == street || !land.lane(s.at[p], street)) {
            return false;
        }
        s.at[p] = street;
        return true;
    }

    private boolean doWind(Now s, int p, int o) {
        if (kind(p) == 1 || sits(s, p) || !strangers(s, p, o) || kind(o) == 3 || s.snapped[o] || s.at[p] != s.at[o]) {
            return false;
        }
        int sum = s.left[o] + give(s, p, o, s.left[o]);
        if (sum > land.snap) {
            s.snapped[o] = true;
            s.snaps++;
            sum = 0;
        }
        s.left[o] = sum;
        s.wound[p][o]++;
        return true;
    }

    private boolean doMend(Now s, int p) {
        if (!s.snapped[p]) {
            return false;
        }
        s.snapped[p] = false;
        s.left[p] = 1;
        return true;
    }

    private int doHour(Now s) {
        int n = 0;
        for (int i = 0; i < s.at.length; i++) {
            for (int j = i + 1; j < s.at.length; j++) {
                n += s.left[j] < 10 && doWind(s, i, j) ? 1 : 0;
                n += s.left[i] < 10 && doWind(s, j, i) ? 1 : 0;
            }
        }
        for (int i = 0; i < s.at.length; i++) {
            if (s.left[i] > 0) {
                s.left[i]--;
            }
        }
        s.hour++;
        return n;
    }

    private int sitting(Now s) {
        int bits = 0;
        for (int i = 0; i < s.at.length; i++) {
            bits += sits(s, i) ? 1 << i : 0;
        }
        return bits;
    }

    private void keep(Now before) {
        past.addLast(before);
        if (past.size() > 16) {
            past.removeFirst();
        }
    }

    // ---- the face

    int person(int p, int what) {
        if (!isPerson(p) || what < 0 || what > 5) {
            return -1;
        }
        int strangers = 0;
        for (int o = 0; o < now.at.length; o++) {
            strangers += strangers(now, p, o) ? 1 << o : 0;
        }
        return new int[] {kind(p), now.at[p], now.left[p], now.snapped[p] ? 1 : 0, sits(now, p) ? 1 : 0,
            strangers}[what];
    }

    int wound(int p, int o) {
        return two(p, o) ? now.wound[p][o] : -1;
    }

    int lanes(int street) {
        if (street < 0 || street >= land.streets.size()) {
            return -1;
        }
        int bits = 0;
        for (int i = 0; i < 5; i++) {
            bits += land.lane(street, i) ? 1 << i : 0;
        }
        return bits;
    }

    int gives(int p, int o) {
        return two(p, o) ? give(now, p, o, now.left[o]) : -1;
    }

    boolean walk(int p, int street) {
        if (!isPerson(p) || street < 0 || street >= land.streets.size()) {
            return false;
        }
        Now before = new Now(now);
        if (!doWalk(now, p, street)) {
            return false;
        }
        keep(before);
        return true;
    }

    int wind(int p, int o) {
        if (!two(p, o)) {
            return -1;
        }
        Now before = new Now(now);
        if (!doWind(now, p, o)) {
            return -1;
        }
        keep(before);
        return now.left[o];
    }

    boolean mend(int p) {
        if (!isPerson(p)) {
            return false;
        }
        Now before = new Now(now);
        if (!doMend(now, p)) {
            return false;
        }
        keep(before);
        return true;
    }

    int hour() {
        keep(new Now(now));
        return doHour(now);
    }

    boolean undo() {
        if (past.isEmpty()) {
            return false;
        }
        now = past.removeLast();
        return true;
    }

    int judged(int what) {
        int cant = -1;
        int snap = -1;
        Now s = new Now(land);
        for (int i = 0; i < week.size(); i++) {
            String[] line = week.get(i);
            int a = Integer.parseInt(line[1]);
            int b = Integer.parseInt(line[2]);
            int snaps = s.snaps;
            boolean can = true;
            if (line[0].equals("walk")) {
                can = doWalk(s, a, b);
            } else if (line[0].equals("wind")) {
                can = doWind(s, a, b);
            } else if (line[0].equals("mend")) {
                can = doMend(s, a);
            } else {
                doHour(s);
            }
            cant = cant < 0 && !can ? i : cant;
            snap = snap < 0 && s.snaps != snaps ? i : snap;
        }
        return what == 0 ? cant : what == 1 ? snap : what == 2 ? sitting(s) : -2;
    }

    int stops(int p) {
        if (!isPerson(p)) {
            return -1;
        }
        Now s = new Now(now);
        int n = 0;
        while (!sits(s, p)) {
            doHour(s);
            n++;
            if (n > 99) {
                return -1;
            }
        }
        return n;
    }

    int august() {
        Now s = new Now(now);
        int n = 0;
        while (Integer.bitCount(sitting(s)) < s.at.length) {
            doHour(s);
            n++;
            if (n > 99) {
                return -1;
            }
        }
        return n;
    }

    int plan(int p, int hours, int what) {
        if (!isPerson(p) || hours < 1 || hours > 4 || what < 0 || what > hours) {
            return -1;
        }
        int n = land.streets.size();
        int best = -1;
        int[] where = null;
        int rows = 1;
        for (int i = 0; i < hours; i++) {
            rows *= n;
        }
        for (int r = 0; r < rows; r++) {
            int[] row = new int[hours];
            for (int i = hours - 1, k = r; i >= 0; i--, k /= n) {
                row[i] = k % n;
            }
            Now s = new Now(now);
            boolean can = true;
            for (int i = 0; i < hours && can; i++) {
                can = row[i] == s.at[p] || doWalk(s, p, row[i]);
                doHour(s);
            }
            if (can && s.left[p] > best) {
                best = s.left[p];
                where = row;
            }
        }
        return what == 0 ? best : where[what - 1];
    }

    int stand(int p) {
        if (!isPerson(p) || sits(now, p)) {
            return -1;
        }
        int[] others = new int[land.streets.size()];
        for (int o = 0; o < now.at.length; o++) {
            if (strangers(now, p, o) && kind(o) != 1 && !sits(now, o)) {
                others[now.at[o]]++;
            }
        }
        int best = now.at[p];
        for (int i = others.length - 1; i >= 0; i--) {
            if (land.lane(now.at[p], i) || i == now.at[p]) {
                best = others[i] >= others[best] ? i : best;
            }
        }
        return best;
    }

    int fewest(int hours, int what) {
        if (hours < 1 || hours > 24 || what < 0 || what > 1) {
            return -2;
        }
        List<int[]> ways = new ArrayList<>();
        ways.add(new int[] {0, -1});
        for (int set = 1; set < 1 << now.at.length; set++) {
            for (int i = 0; i < land.streets.size(); i++) {
                ways.add(new int[] {set, i});
            }
        }
        ways.sort(Comparator.<int[]>comparingInt(w -> Integer.bitCount(w[0])).thenComparingInt(w -> w[0])
                .thenComparingInt(w -> w[1]));
        for (int[] way : ways) {
            Now s = new Now(now);
            boolean can = true;
            for (int p = 0; p < s.at.length; p++) {
                can &= (way[0] & 1 << p) == 0 || doWalk(s, p, way[1]);
            }
            for (int i = 0; i < hours && can; i++) {
                doHour(s);
            }
            if (can && sitting(s) == 0) {
                return way[what];
            }
        }
        return -2;
    }

    boolean tale(int p, int left) {
        if (!isPerson(p) || left < 0 || left > 99) {
            return false;
        }
        tales.put(p, left);
        return true;
    }

    private List<Set<Integer>> setsOf(int p) {
        List<Integer> others = new ArrayList<>();
        for (int o = 0; o < now.at.length; o++) {
            if (strangers(now, p, o) && now.at[o] == now.at[p] && kind(o) != 1 && !sits(now, o)) {
                others.add(o);
            }
        }
        List<Set<Integer>> found = new ArrayList<>();
        for (int bits = 0; bits < 1 << others.size(); bits++) {
            Set<Integer> set = new TreeSet<>();
            for (int i = 0; i < others.size(); i++) {
                if ((bits & 1 << i) != 0) {
                    set.add(others.get(i));
                }
            }
            int left = now.left[p];
            boolean snapped = now.snapped[p];
            for (int o : set) {
                left = snapped ? 0 : left + give(now, o, p, left);
                if (left > land.snap) {
                    snapped = true;
                    left = 0;
                }
            }
            if (!tales.containsKey(p) || tales.get(p) == left) {
                found.add(set);
            }
        }
        return found;
    }

    int sets(int p, int what) {
        if (!isPerson(p) || what < 0 || what > 2) {
            return -1;
        }
        List<Set<Integer>> found = setsOf(p);
        if (what == 0 || found.isEmpty()) {
            return what == 0 ? found.size() : -1;
        }
        int bits = 0;
        for (int o = 0; o < 6; o++) {
            int who = o;
            boolean in = what == 1 ? found.stream().allMatch(s -> s.contains(who))
                    : found.stream().anyMatch(s -> s.contains(who));
            bits += in ? 1 << o : 0;
        }
        return bits;
    }

    int ask(int p) {
        if (!isPerson(p)) {
            return -1;
        }
        List<Set<Integer>> found = setsOf(p);
        Map<Integer, Integer> greater = new HashMap<>();
        for (int o = 0; o < now.at.length; o++) {
            int who = o;
            int have = (int) found.stream().filter(s -> s.contains(who)).count();
            greater.put(o, Math.max(have, found.size() - have));
        }
        greater.remove(p);
        return greater.entrySet().stream().filter(e -> e.getValue() < found.size())
                .min(Map.Entry.<Integer, Integer>comparingByValue().thenComparing(Map.Entry.comparingByKey()))
                .map(Map.Entry::getKey).orElse(-1);
    }

    int meet(int p, int o, int hours) {
        if (!two(p, o) || hours < 1 || hours > 6 || now.at[p] == now.at[o]) {
            return -1;
        }
        Map<List<Integer>, Integer> mass = new HashMap<>();
        mass.put(List.of(now.at[p], now.at[o]), 1000000);
        int met = 0;
        for (int h = 0; h < hours; h++) {
            Map<List<Integer>, Integer> then = new HashMap<>();
            for (Map.Entry<List<Integer>, Integer> e : mass.entrySet()) {
                List<List<Integer>> to = new ArrayList<>();
                for (int i = 0; i < land.streets.size(); i++) {
                    for (int j = 0; j < land.streets.size(); j++) {
                        int a = e.getKey().get(0);
                        int b = e.getKey().get(1);
                        if ((i == a || land.lane(a, i)) && (j == b || land.lane(b, j))) {
                            to.add(List.of(i, j));
                        }
                    }
                }
                for (List<Integer> t : to) {
                    if (t.get(0).equals(t.get(1))) {
                        met += e.getValue() / to.size();
                    } else {
                        then.merge(t, e.getValue() / to.size(), Integer::sum);
                    }
                }
            }
            mass = then;
        }
        return met;
    }

    int engaged() {
        int n = 0;
        for (int i = 0; i < now.at.length; i++) {
            for (int j = 0; j < i; j++) {
                n += Math.min(now.wound[i][j], now.wound[j][i]) > 1 ? 1 : 0;
            }
        }
        return n;
    }

    int pairs(int p) {
        int n = now.at.length;
        if (p < -1 || p >= n) {
            return -2;
        }
        int rows = 1;
        for (int i = 0; i < n; i++) {
            rows *= n;
        }
        int most = -1;
        int[] best = null;
        for (int r = 0; r < rows; r++) {
            int[] row = new int[n];
            for (int i = n - 1, k = r; i >= 0; i--, k /= n) {
                row[i] = k % n;
            }
            int with = 0;
            boolean can = true;
            for (int i = 0; i < n && can; i++) {
                can = row[row[i]] == i && (row[i] == i || now.at[i] == now.at[row[i]] && strangers(now, i, row[i]));
                with += row[i] != i ? 1 : 0;
            }
            if (can && with / 2 > most) {
                most = with / 2;
                best = row;
            }
        }
        return p < 0 ? most : best[p];
    }

    int tinkers() {
        int bits = 0;
        for (int i = 0; i < now.at.length; i++) {
            bits += person(i, 5) == 0 ? 1 << i : 0;
        }
        return bits;
    }

    /** Check.THROWS: NoSuchElementException. */
    int rests(int both, int loses, int gets, int what) {
        for (int n : new int[] {both, loses, gets}) {
            if (n < 0 || n > 9) {
                return Check.THROWS;
            }
        }
        int[][] pay = {{0, gets}, {-loses, both}};
        List<Integer> found = new ArrayList<>();
        for (int a = 0; a < 2; a++) {
            for (int b = 0; b < 2; b++) {
                if (pay[a][b] == Math.max(pay[0][b], pay[1][b]) && pay[b][a] == Math.max(pay[0][a], pay[1][a])) {
                    found.add(2 * a + b);
                }
            }
        }
        if (what == -1) {
            return found.size();
        }
        return what >= 0 && what < found.size() ? found.get(what) : Check.THROWS;
    }

    int years(int seed, int hours, int what) {
        if (seed < 0 || seed > 9999 || hours < 1 || hours > 99 || what < 0 || what > 2) {
            return -1;
        }
        long[] g = {seed};
        Now s = new Now(now);
        int windings = 0;
        for (int h = 0; h < hours; h++) {
            if (s.at.length > 0) {
                int p = draw(g, s.at.length);
                doWalk(s, p, draw(g, land.streets.size()));
            }
            windings += doHour(s);
            if (draw(g, 9) == 0) {
                for (int p = 0; p < s.at.length; p++) {
                    doMend(s, p);
                }
            }
        }
        return what == 0 ? windings : what == 1 ? s.snaps - now.snaps : sitting(s);
    }

    private static int draw(long[] g, int m) {
        g[0] = (g[0] * 1103515245L + 12345L) % 2147483648L;
        return (int) (g[0] / 65536 % m);
    }

    boolean mark(int m, boolean back) {
        if (m < 0 || m > 3 || back && marks[m] == null) {
            return false;
        }
        if (back) {
            now = new Now(marks[m].now);
            week = marks[m].week;
            tales = new TreeMap<>(marks[m].tales);
            past.clear();
        } else {
            marks[m] = new Mark();
            marks[m].now = new Now(now);
            marks[m].week = week;
            marks[m].tales = new TreeMap<>(tales);
        }
        return true;
    }

    int count(int what) {
        int snapped = 0;
        for (int i = 0; i < now.at.length; i++) {
            snapped += now.snapped[i] ? 1 << i : 0;
        }
        int[] all = {land.streets.size(), now.at.length, land.soon, land.snap, now.hour, sitting(now), snapped,
            Arrays.stream(now.left).sum(), now.windings(), week.size(), tales.size(), past.size(), tape.length()};
        return what < 0 || what >= all.length ? -1 : all[what];
    }
}
