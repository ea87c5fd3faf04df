/** All that the face shows of an object, as a text, so that two objects can be held against each other. */
final class Portrait {
    private Portrait() {
    }

    /** What is there: counts, people, who wound whose, lanes. It changes nothing. */
    static String of(StrangeWinding x) {
        StringBuilder text = new StringBuilder("counts");
        for (int what = 0; what <= 12; what++) {
            text.append(' ').append(x.count(what));
        }
        int people = x.count(1);
        for (int p = 0; p < people; p++) {
            text.append("; person ").append(p);
            for (int what = 0; what <= 5; what++) {
                text.append(' ').append(x.person(p, what));
            }
            for (int o = 0; o < people; o++) {
                text.append(o == p ? "" : " " + x.wound(p, o));
            }
        }
        for (int street = 0; street < x.count(0); street++) {
            text.append("; lanes ").append(x.lanes(street));
        }
        return text.toString();
    }

    /** What can only be seen by asking: the law, the WEEK's lines, the TALES. It changes nothing. */
    static String asked(StrangeWinding x) {
        StringBuilder text = new StringBuilder("judged");
        for (int what = 0; what <= 2; what++) {
            text.append(' ').append(x.judged(what));
        }
        int people = x.count(1);
        for (int p = 0; p < people; p++) {
            text.append("; sets ").append(x.sets(p, 0)).append(' ').append(x.sets(p, 1)).append(' ').append(x.sets(p, 2));
            for (int o = 0; o < people; o++) {
                text.append(o == p ? "" : " gives " + x.gives(p, o));
            }
        }
        return text.toString();
    }

    /** Also what can be undone and what the MARKS hold: the object is undone and gone back with for that. */
    static String takenApart(StrangeWinding x) {
        StringBuilder text = new StringBuilder(of(x)).append('\n').append(asked(x));
        for (int i = 0; i < 17 && x.undo(); i++) {
            text.append("\nundone: ").append(of(x));
        }
        for (int mark = 0; mark < 4; mark++) {
            text.append("\nmark ").append(mark).append(x.mark(mark, true) ? ": " + of(x) : " is bare");
        }
        return text.toString();
    }
}
