import java.util.Random;

/** Texts drawn at random from a fixed seed: lands and weeks, mostly sound, some spoilt. */
final class Drawn {
    private static final String[] SCRAPS = {"street", "lane", "person", "at", "left", "knows", "soon", "snap", "winds",
        "walk", "wind", "mend", "hour", "plain", "hermit", "deaf", "sun", "not", "and", "or", "goes", "thumb", "met",
        "crowd", "(", ")", "<", "=", "+", "-", "*", ";", ";", "0", "1", "7", "42", "99", "100", "00007", "9999", "sa",
        "sb", "pa", "pb", "abcdefgh", "abcdefghi", "X", ">", "\n", "  ", "!"};

    private final Random random;

    Drawn(long seed) {
        random = new Random(seed);
    }

    int below(int bound) {
        return random.nextInt(bound);
    }

    long row() {
        return random.nextLong();
    }

    private boolean one(int in) {
        return random.nextInt(in) == 0;
    }

    /** Mostly a number of the range, now and then one beside it or far away. */
    int near(int least, int most) {
        if (one(12)) {
            return one(3) ? random.nextInt() : one(2) ? least - 1 : most + 1;
        }
        return least + random.nextInt(most - least + 1);
    }

    String land() {
        StringBuilder text = new StringBuilder();
        int streets = 1 + below(5);
        int people = one(10) ? below(7) : 2 + below(5);
        for (int i = 0; i < streets; i++) {
            text.append("street s").append((char) ('a' + i)).append(';');
        }
        for (int i = 0; i < streets; i++) {
            for (int j = 0; j < i; j++) {
                if (below(5) < 3) {
                    text.append(one(2) ? "lane s" + (char) ('a' + i) + " s" + (char) ('a' + j) + ";"
                            : "lane s" + (char) ('a' + j) + " s" + (char) ('a' + i) + ";");
                }
            }
        }
        String[] kinds = {"plain", "plain", "plain", "hermit", "deaf", "sun"};
        boolean crowded = one(3);
        for (int i = 0; i < people; i++) {
            text.append("person p").append((char) ('a' + i)).append(' ').append(kinds[below(6)]).append(" at s")
                    .append((char) ('a' + (crowded ? 0 : below(streets)))).append(" left ")
                    .append(one(6) ? 0 : one(6) ? below(100) : below(25)).append(';');
        }
        for (int i = 0; i < people; i++) {
            for (int j = 0; j < i; j++) {
                if (one(6)) {
                    text.append("knows p").append((char) ('a' + i)).append(" p").append((char) ('a' + j)).append(';');
                }
            }
        }
        if (one(2)) {
            text.append("soon ").append(1 + below(9)).append(';');
        }
        if (one(2)) {
            text.append("snap ").append(one(2) ? 1 + below(99) : 10 + below(40)).append(';');
        }
        if (below(4) < 3) {
            text.append("winds ").append(one(2) ? law(1 + below(3)) : "goes+" + below(30)).append(';');
        }
        return one(8) ? spoilt(text) : text.toString();
    }

    String week(int streets, int people) {
        StringBuilder text = new StringBuilder();
        int lines = one(10) ? 38 + below(5) : below(14);
        for (int i = 0; i < lines; i++) {
            int verb = people < 2 ? 3 : below(4);
            String first = " p" + (char) ('a' + below(Math.max(1, people)));
            if (verb == 0) {
                text.append("walk").append(first).append(" s").append((char) ('a' + below(Math.max(1, streets))));
            } else if (verb == 1) {
                String second = " p" + (char) ('a' + below(people));
                text.append("wind").append(first).append(second.equals(first) && !one(5)
                        ? " p" + (char) ('a' + (first.charAt(2) - 'a' + 1) % people) : second);
            } else {
                text.append(verb == 2 ? "mend" + first : "hour");
            }
            text.append(';');
        }
        return one(6) ? spoilt(text) : text.toString();
    }

    private String law(int depth) {
        int pick = below(depth > 0 ? 12 : 5);
        switch (pick) {
            case 0:
                return "goes";
            case 1:
                return "thumb";
            case 2:
                return "met";
            case 3:
                return "crowd";
            case 4:
                return "" + (one(5) ? below(10000) : below(45));
            case 5:
                return "(" + law(depth - 1) + ")";
            case 6:
                return "not " + (one(2) ? "(" + law(depth - 1) + ")" : law(0));
            default:
                String[] joins = {"+", "-", "*", "<", "=", " and ", " or "};
                return law(depth - 1) + joins[below(7)] + law(depth - 1);
        }
    }

    private String spoilt(StringBuilder text) {
        if (text.length() == 0) {
            return scraps();
        }
        int at = below(text.length());
        if (one(3)) {
            text.deleteCharAt(at);
        } else if (one(2)) {
            text.insert(at, SCRAPS[below(SCRAPS.length)]);
        } else {
            text.insert(at, " " + SCRAPS[below(SCRAPS.length)] + " ");
        }
        return text.toString();
    }

    String scraps() {
        StringBuilder text = new StringBuilder();
        int n = below(30);
        for (int i = 0; i < n; i++) {
            text.append(SCRAPS[below(SCRAPS.length)]).append(one(3) ? "" : " ");
        }
        return text.toString();
    }

    String lawText() {
        StringBuilder text = new StringBuilder("winds ");
        int n = 1 + below(14);
        for (int i = 0; i < n; i++) {
            text.append(SCRAPS[17 + below(19)]).append(one(3) ? "" : " ");
        }
        return text.append(";").toString();
    }
}
