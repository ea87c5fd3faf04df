import java.io.IOException;
import java.lang.reflect.Constructor;
import java.lang.reflect.Field;
import java.lang.reflect.Method;
import java.lang.reflect.Modifier;
import java.nio.file.Files;
import java.nio.file.Path;
import java.util.Set;
import java.util.TreeSet;

/** The public face, and the rules of LANGUAGE.md that reflection or a search of the text can see. */
public final class FaceTest {
    private static final String FACE = "int feed(long,long,long);int land();int week();int person(int,int);"
            + "int wound(int,int);int lanes(int);int gives(int,int);boolean walk(int,int);int wind(int,int);"
            + "boolean mend(int);int hour();boolean undo();int judged(int);int stops(int);int august();"
            + "int plan(int,int,int);int stand(int);int fewest(int,int);boolean tale(int,int);int sets(int,int);"
            + "int ask(int);int meet(int,int,int);int engaged();int pairs(int);int tinkers();"
            + "int rests(int,int,int,int);int years(int,int,int);boolean mark(int,boolean);int count(int)";

    public static void main(String[] args) throws IOException {
        members();
        names();
        nested();
        source();
        Check.end();
    }

    private static String shape(Method m) {
        StringBuilder text = new StringBuilder(m.getReturnType().getName()).append(' ').append(m.getName()).append('(');
        for (Class<?> type : m.getParameterTypes()) {
            text.append(text.charAt(text.length() - 1) == '(' ? "" : ",").append(type.getName());
        }
        return text.append(')').toString();
    }

    private static void members() {
        Set<String> due = new TreeSet<>(Set.of(FACE.split(";")));
        Set<String> seen = new TreeSet<>();
        for (Method m : StrangeWinding.class.getDeclaredMethods()) {
            if (!Modifier.isPrivate(m.getModifiers())) {
                seen.add(shape(m));
                Check.due(m + " is public", Modifier.isPublic(m.getModifiers()), true);
                Check.due(m + " is of an object", Modifier.isStatic(m.getModifiers()), false);
            }
        }
        Check.due("methods " + seen, seen.equals(due), true);
        for (Field f : StrangeWinding.class.getDeclaredFields()) {
            Check.due(f + " is private", Modifier.isPrivate(f.getModifiers()), !f.getName().equals("NONE"));
        }
        Constructor<?>[] made = StrangeWinding.class.getDeclaredConstructors();
        Check.due("one constructor", made.length, 1);
        Check.due("of nothing, public", Modifier.isPublic(made[0].getModifiers()) && made[0].getParameterCount() == 0, true);
        Check.due("public and final", StrangeWinding.class.getModifiers() & (Modifier.PUBLIC | Modifier.FINAL),
                Modifier.PUBLIC | Modifier.FINAL);
    }

    private static void names() {
        Set<String> face = new TreeSet<>();
        for (String method : FACE.split(";")) {
            face.add(method.substring(method.indexOf(' ') + 1, method.indexOf('(')));
        }
        for (Method m : StrangeWinding.class.getDeclaredMethods()) {
            Check.due(m + " bears a public name", Modifier.isPrivate(m.getModifiers()) && face.contains(m.getName()), false);
            Check.due(m + " takes seven at most", m.getParameterCount() <= 7, true);
        }
        for (Class<?> c : StrangeWinding.class.getDeclaredClasses()) {
            for (Method m : c.getDeclaredMethods()) {
                Check.due(m + " bears a public name", face.contains(m.getName()), false);
                Check.due(m + " takes seven at most", m.getParameterCount() <= 7, true);
            }
        }
    }

    private static void nested() {
        Class<?>[] inside = StrangeWinding.class.getDeclaredClasses();
        Check.due("some twelve classes", inside.length <= 11, true);
        for (Class<?> c : inside) {
            Check.due(c + " is private and static", c.getModifiers() & (Modifier.PRIVATE | Modifier.STATIC),
                    Modifier.PRIVATE | Modifier.STATIC);
            for (Field f : c.getDeclaredFields()) {
                boolean isConstant = Modifier.isStatic(f.getModifiers());
                Check.due(f + " is final if static", !isConstant || Modifier.isFinal(f.getModifiers()), true);
            }
        }
    }

    private static void source() throws IOException {
        String text = Files.readString(Path.of("src/main/java/StrangeWinding.java"));
        String[] out = {"->", "::", "try {", "catch", "finally", "synchronized", "assert", "System.out", "Random", "nanoTime",
            "HashMap", "Exact(", "var ", "package ", "\t", "toString", "String.format"};
        for (String word : out) {
            Check.due("holds " + word, text.contains(word), false);
        }
        for (int i = 0; i < text.length(); i++) {
            if (text.charAt(i) > 126) {
                Check.due("sign at " + i, text.charAt(i), 126);
            }
        }
        for (String line : text.split("\n")) {
            if (line.startsWith("import ")) {
                Check.due(line, line.equals("import java.util.Arrays;")
                        || line.equals("import java.util.NoSuchElementException;"), true);
            }
            Check.due("long line " + line, line.length() <= 130, true);
        }
    }
}
