import java.io.IOException;
import java.lang.reflect.Method;
import java.lang.reflect.Modifier;
import java.nio.file.Files;
import java.nio.file.Path;
import java.util.ArrayList;
import java.util.LinkedHashMap;
import java.util.List;
import java.util.Map;
import java.util.Set;
import java.util.TreeSet;
import java.util.regex.Matcher;
import java.util.regex.Pattern;
import java.util.stream.Collectors;
import java.util.stream.Stream;

/** What README.md says is so: its code stands below and is run, its answers are due, its tests are there. */
public final class ReadmeTest {
    private static final Path README = Path.of("README.md");
    private static final Path TESTS = Path.of("src/test/java");
    private static final Pattern ANSWER = Pattern.compile("(?:int|boolean) (\\w+) = .*; +// (-?\\w+)\\b.*");

    public static void main(String[] args) throws IOException {
        List<String> shown = codeOf(Files.readAllLines(README));
        standsHere(shown);
        answersAreDue(shown, example());
        namesEachTest(Files.readString(README));
        namesEachCall(Files.readString(README));
        Check.due(".ci/run can be run", Files.isExecutable(Path.of(".ci/run")), true);
        Check.end();
    }

    // Each line of README.md's code stands in this method or the one below, letter by letter.
    private static Map<String, String> example() {
        StrangeWinding x = new StrangeWinding();
        feed(x, "street hill; street dock; lane hill dock;"
                + "person anna plain at hill left 5; person bert deaf at hill left 20;"
                + "person cora plain at dock left 12; knows anna cora;"
                + "soon 2; snap 40; winds 30 - goes;");
        int fault = x.land();                 // 0: it is the LAND now
        int people = x.count(1);              // 3: anna is 0, bert 1, cora 2
        int strangers = x.person(1, 5);       // 5: anna (bit 0) and cora (bit 2) are strangers to bert

        int given = x.gives(1, 0);            // 12: half of 30 - 5, since bert is deaf
        boolean walked = x.walk(2, 0);        // true: cora is in hill
        int refused = x.wind(2, 0);           // -1: cora and anna know each other
        int left = x.wind(1, 0);              // 17: anna's watch goes 17 hours yet
        int windings = x.hour();              // 0: nobody had less than 10 hours left
        boolean undone = x.undo();            // true: the hour is

        int stops = x.stops(0);               // 27: bert winds her once more ahead of that
        int august = x.august();              // 41: all sit then
        int plan = x.plan(0, 4, 0);           // 13: hours left behind 4 hours, wherever she walks
        int sitting = x.years(7, 99, 2);      // 7: all three, behind 99 drawn hours

        feed(x, "walk cora hill; wind bert anna; mend anna; hour;");
        int week = x.week();                  // 0: it is the WEEK now
        int cannot = x.judged(0);             // 2: line 2 can't be, anna's watch is not snapped

        feed(x, "street hill");
        int unended = x.land();               // 177: 1 + 16 * 11, no ; at place 11, and all stays

        Map<String, String> answers = new LinkedHashMap<>();
        put(answers, "fault", fault, "people", people, "strangers", strangers, "given", given, "walked", walked);
        put(answers, "refused", refused, "left", left, "windings", windings, "undone", undone, "stops", stops);
        put(answers, "august", august, "plan", plan, "sitting", sitting, "week", week, "cannot", cannot);
        put(answers, "unended", unended);
        return answers;
    }

    /** Puts a text on the TAPE, 24 signs a call: what stays 0 is left out. */
    static void feed(StrangeWinding x, String text) {
        for (int i = 0; i < text.length(); i += 24) {
            long[] row = new long[3];
            for (int j = i; j < Math.min(i + 24, text.length()); j++) {
                row[(j - i) / 8] |= (long) text.charAt(j) << 56 - 8 * ((j - i) % 8);
            }
            x.feed(row[0], row[1], row[2]);
        }
    }

    private static void put(Map<String, String> answers, Object... namesAndAnswers) {
        for (int i = 0; i < namesAndAnswers.length; i += 2) {
            answers.put(namesAndAnswers[i].toString(), namesAndAnswers[i + 1].toString());
        }
    }

    private static List<String> codeOf(List<String> readme) {
        List<String> code = new ArrayList<>();
        boolean within = false;
        for (String line : readme) {
            if (line.startsWith("```")) {
                within = line.equals("```java");
            } else if (within && !line.isBlank()) {
                code.add(line.strip());
            }
        }
        return code;
    }

    private static void standsHere(List<String> shown) throws IOException {
        List<String> own = Files.readAllLines(TESTS.resolve("ReadmeTest.java"));
        int at = 0;
        for (String line : shown) {
            while (at < own.size() && !own.get(at).strip().equals(line)) {
                at++;
            }
            Check.due("README.md's code is run: " + line, at < own.size(), true);
            at++;
        }
    }

    private static void answersAreDue(List<String> shown, Map<String, String> answers) {
        Map<String, String> told = new LinkedHashMap<>();
        for (String line : shown) {
            Matcher m = ANSWER.matcher(line);
            if (m.matches()) {
                told.put(m.group(1), m.group(2));
            }
        }
        Check.alike("README.md's answers", answers.toString(), told.toString());
    }

    private static void namesEachTest(String readme) throws IOException {
        Set<String> there;
        try (Stream<Path> files = Files.list(TESTS)) {
            there = files.map(f -> f.getFileName().toString()).filter(f -> f.endsWith("Test.java"))
                    .map(f -> f.replace(".java", "")).collect(Collectors.toCollection(TreeSet::new));
        }
        Set<String> named = new TreeSet<>();
        Matcher m = Pattern.compile("`(\\w+Test)`").matcher(readme);
        while (m.find()) {
            named.add(m.group(1));
        }
        Check.alike("tests that README.md names", named.toString(), there.toString());
    }

    private static void namesEachCall(String readme) {
        for (Method m : StrangeWinding.class.getDeclaredMethods()) {
            if (Modifier.isPublic(m.getModifiers())) {
                Check.due("README.md names " + m.getName(), readme.contains("`" + m.getName() + "`"), true);
            }
        }
    }
}
