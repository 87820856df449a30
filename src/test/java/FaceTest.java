import java.io.IOException;
import java.lang.reflect.Field;
import java.lang.reflect.Method;
import java.lang.reflect.Modifier;
import java.nio.charset.StandardCharsets;
import java.nio.file.Files;
import java.nio.file.Path;
import java.util.ArrayList;
import java.util.List;
import java.util.Set;
import java.util.TreeSet;
import java.util.regex.Matcher;
import java.util.regex.Pattern;

/** The public face, and the rules of LANGUAGE.md that can be seen from the class and its text. Its argument: the text's path. */
public final class FaceTest {
    private static final Due due = new Due("FaceTest");
    private static final String[] FACE = {
        "int person(int)", "int child(int, int, int)", "int personIs(int, int)", "int become(int, int)",
        "int as(int, int)", "int hold(int, int)", "int spoon(int, int, int)", "int gain(int, int)",
        "int lend(int, int, int, int)", "int repay(int, int, int, int)", "int owes(int, int)",
        "int feed(long, int)", "int text(int)", "int untell(int)", "int law(int, int, int, int)",
        "int years(int)", "int loose(int)", "int year(int)", "int seed(int)",
        "int then(int, int, int)", "int clean(int, int)", "int parents(int, int)", "int falseSorts(int)",
        "int kin(int, int)", "int nets(int)", "int odds(int, int)", "int fits(int, int)",
        "int voice(int, int, int)", "int body(int)", "int sheet(int, int, int)", "int put(int, int, int)",
        "int move(int, int, int, int, int)", "int spoons(int, int)", "int judge(int)", "int image()",
        "int restore()", "int tell(int)", "int check()", "int count(int)", "int told(int)",
    };
    private static final String[] FORBIDDEN = {
        "\\b(throw|throws|try|catch|finally|synchronized|assert|native|volatile|transient)\\b",
        "->", "::", "\\bimport\\b", "\\bpackage\\b", "\\bprotected\\b", "@\\w", "\"",
        "\\b(equals|hashCode|toString|Random|System\\.(?!arraycopy)\\w+|Thread|Object|instanceof|var)\\b",
        "\\bMath\\.(?!max|min)\\w+", "\\bArrays\\b", "\\w+Exact\\b", "while \\(true\\)", "for \\(;;\\)",
    };

    public static void main(String[] args) throws IOException {
        face();
        classes();
        if (args.length > 0) {
            text(Files.readString(Path.of(args[0]), StandardCharsets.US_ASCII));
        }
        due.end();
    }

    private static void face() {
        due.is("modifiers of the class", DirtPress.class.getModifiers(), Modifier.PUBLIC | Modifier.FINAL);
        due.is("constructors", DirtPress.class.getDeclaredConstructors().length, 1);
        due.is("the constructor's", DirtPress.class.getDeclaredConstructors()[0].getModifiers(), Modifier.PUBLIC);
        due.is("its parameters", DirtPress.class.getDeclaredConstructors()[0].getParameterCount(), 0);
        Set<String> want = new TreeSet<>(List.of(FACE));
        Set<String> got = new TreeSet<>();
        for (Method m : DirtPress.class.getDeclaredMethods()) {
            if (!Modifier.isPrivate(m.getModifiers())) {
                got.add(named(m));
            }
        }
        due.is("the face", got.toString(), want.toString());
        for (Field f : DirtPress.class.getDeclaredFields()) {
            due.is("private field " + f.getName(), Modifier.isPrivate(f.getModifiers()) ? 1 : 0, 1);
        }
    }

    private static String named(Method m) {
        List<String> types = new ArrayList<>();
        for (Class<?> type : m.getParameterTypes()) {
            types.add(type.getSimpleName());
        }
        return m.getReturnType().getSimpleName() + " " + m.getName() + "(" + String.join(", ", types) + ")";
    }

    private static void classes() {
        List<Class<?>> all = new ArrayList<>(List.of(DirtPress.class.getDeclaredClasses()));
        due.is("at most twelve classes", all.size() < 12 ? 1 : 0, 1);
        all.add(DirtPress.class);
        Set<String> open = new TreeSet<>();
        for (String name : FACE) {
            open.add(name.substring(4, name.indexOf('(')));
        }
        for (Class<?> one : all) {
            due.is(one + " is static", one == DirtPress.class || Modifier.isStatic(one.getModifiers()) ? 1 : 0, 1);
            int fields = 0;
            for (Field f : one.getDeclaredFields()) {
                boolean isStatic = Modifier.isStatic(f.getModifiers());
                fields += isStatic ? 0 : 1;
                due.is(f + " is final", !isStatic || Modifier.isFinal(f.getModifiers()) ? 1 : 0, 1);
            }
            due.is(one + " has at most twenty fields", fields <= 20 ? 1 : 0, 1);
            for (Method m : one.getDeclaredMethods()) {
                due.is(m + " has at most seven parameters", m.getParameterCount() <= 7 ? 1 : 0, 1);
                boolean inner = one != DirtPress.class || Modifier.isPrivate(m.getModifiers());
                due.is(m + " has a name of its own", inner && open.contains(m.getName()) ? 1 : 0, 0);
            }
        }
    }

    private static void text(String text) {
        String code = text.replaceAll("(?s)/\\*.*?\\*/", "").replaceAll("//.*", "");
        for (String rule : FORBIDDEN) {
            Matcher m = Pattern.compile(rule).matcher(code);
            due.is("the text by " + rule, m.find() ? m.group() : "", "");
        }
        for (String line : code.split("\n")) {
            due.is("a line's length: " + line, line.length() <= 120 ? 1 : 0, 1);
        }
        lengths(code);
    }

    private static void lengths(String code) {
        String[] lines = code.split("\n");
        int start = -1;
        for (int i = 0; i < lines.length; i++) {
            if (lines[i].matches(" {4,8}[\\w\\[\\] ]+\\(.*\\) \\{")) {
                start = i;
            }
            boolean ends = lines[i].matches(" {4,8}\\}");
            if (ends && start >= 0) {
                due.is("a method's length: " + lines[start], i - start <= 60 ? 1 : 0, 1);
                start = -1;
            }
        }
    }
}
