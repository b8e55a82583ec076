import java.io.IOException;
import java.lang.reflect.Field;
import java.lang.reflect.Method;
import java.lang.reflect.Modifier;
import java.nio.file.Files;
import java.nio.file.Path;
import java.util.ArrayList;
import java.util.Arrays;
import java.util.List;
import java.util.TreeSet;
import java.util.regex.Matcher;
import java.util.regex.Pattern;

/** The public face, and what of ../shared/LANGUAGE.md can be seen from the text. Run where the project stands. */
final class FaceTest {
    private static final Due DUE = new Due("FaceTest");
    private static final String[] FACE = {
        "adds 1", "as 2", "ask 2", "back 0", "behind 2", "best 2", "check 1", "copy 5", "count 1", "days 1", "deal 1", "dealing 1",
        "debtor 0", "dig 4", "dug 2", "feed 3", "fine 1", "forget 0", "frees 1", "hole 4", "item 2", "keep 0", "lay 3", "mark 3",
        "owes 1", "paid 0", "pour 1", "reads 1", "rest 2", "rule 2", "seed 1", "set 3", "settles 2", "sheet 3", "takes 2", "tell 1",
        "text 0", "textTold 2", "told 2", "trim 1", "turns 2", "want 2", "why 1"};

    /** What may stand nowhere in the code, each behind the number of its rule. */
    private static final String[][] NEVER = {
        {"1", "\\bprotected\\b"}, {"1", "\\bpackage\\b"}, {"2", "->"}, {"2", "::"}, {"2", "\\bnew \\w+\\([^;{]*\\) *\\{"},
        {"4", "import (?!java\\.util\\.(Arrays|ArrayList|List|Iterator);)"}, {"4", "[^\\x00-\\x7f]"}, {"4", "\\bSystem\\.(?!arraycopy\\()"},
        {"4", "\\bArrays\\.(?!(copyOf|copyOfRange|fill)\\()"}, {"4", "\\w+Exact\\b"}, {"5", "\\bstatic \\{"},
        {"5", "\\bstatic (?!final )[\\w\\[\\]]+ \\w+ *[;=]"}, {"6", "\\b(throws?|try|catch|synchronized|assert)\\b"},
        {"6", "\\b(boolean equals|int hashCode|String toString)\\("}, {"10", "\\+ *\""}, {"10", "\" *\\+"}, {"12", "[(,] *this *[,)]"},
        {"13", "\\b(Thread|Random|Date|File|Files|Socket|Runtime)\\b"}};

    public static void main(String[] args) throws IOException {
        constants();
        methods();
        classesInside();
        words(Files.readString(Path.of("src/main/java/DigFill.java")));
        manyCallsOfEach();
        DUE.end();
    }

    private static void constants() {
        long[] got = {DigFill.BAD, DigFill.NO, DigFill.FULL, DigFill.NONE, DigFill.NOTHING, DigFill.KIND, DigFill.INDEX, DigFill.SIZE};
        long[] want = {1, 2, 3, 5, 11, 12, 13, 14};
        for (int i = 0; i < want.length; i++) {
            DUE.is("constant " + i, -1000000000 - want[i], got[i]);
        }
        int open = 0;
        for (Field field : DigFill.class.getDeclaredFields()) {
            open += Modifier.isPrivate(field.getModifiers()) ? 0 : 1;
        }
        DUE.is("no other field is open", want.length, open);
    }

    private static void methods() {
        TreeSet<String> face = new TreeSet<>();
        TreeSet<String> inside = new TreeSet<>();
        List<Class<?>> all = new ArrayList<>(Arrays.asList(DigFill.class.getDeclaredClasses()));
        all.add(DigFill.class);
        for (Class<?> one : all) {
            for (Method m : one.getDeclaredMethods()) {
                boolean open = one == DigFill.class && !Modifier.isPrivate(m.getModifiers());
                DUE.holds(m.getName() + " answers an int, if it is open", !open || m.getReturnType() == int.class);
                (open ? face : inside).add(open ? m.getName() + " " + m.getParameterCount() : m.getName());
                DUE.holds(m.getName() + " has seven parameters at most", m.getParameterCount() <= 7);
            }
        }
        DUE.is("the face " + face, 1, face.equals(new TreeSet<>(Arrays.asList(FACE))) ? 1 : 0);
        for (String call : FACE) {
            DUE.holds("nothing inside bears the name of " + call, !inside.contains(call.split(" ")[0]));
        }
        DUE.is("one constructor", 1, DigFill.class.getDeclaredConstructors().length);
        DUE.holds("the class is public and final", DigFill.class.getModifiers() == (Modifier.PUBLIC | Modifier.FINAL));
    }

    private static void classesInside() {
        DUE.holds("some twelve classes at most", DigFill.class.getDeclaredClasses().length < 12);
        for (Class<?> inside : DigFill.class.getDeclaredClasses()) {
            DUE.holds(inside + " is static", Modifier.isStatic(inside.getModifiers()));
            DUE.holds(inside + " is not public", !Modifier.isPublic(inside.getModifiers()));
            int fields = 0;
            for (Field field : inside.getDeclaredFields()) {
                fields += Modifier.isStatic(field.getModifiers()) ? 0 : 1;
            }
            DUE.holds(inside + " has some twenty fields at most", fields <= 20);
        }
    }

    private static void words(String text) {
        String code = text.replaceAll("(?s)/\\*.*?\\*/", "").replaceAll("//[^\n]*", "");
        for (String[] rule : NEVER) {
            Matcher m = Pattern.compile(rule[1]).matcher(code);
            DUE.holds("rule " + rule[0] + ": no " + rule[1], !m.find());
        }
        Matcher method = Pattern.compile("(?m)^( {4}| {8})\\S.*\\) \\{\n(?:\\1 .*\n|\n)*").matcher(code);
        int methods = 0;
        while (method.find()) {
            methods++;
            DUE.holds("sixty lines at most: " + method.group().split("\n")[0], method.group().split("\n").length <= 60);
        }
        DUE.holds("methods were found", methods >= FACE.length);
    }

    /** Each call alone, 512 times on a new object, with arguments at every end: none may throw. */
    private static void manyCallsOfEach() {
        int[] ends = {0, 1, -1, 5, 30, 100, Integer.MIN_VALUE, Integer.MAX_VALUE, DigFill.NONE};
        for (Method m : DigFill.class.getDeclaredMethods()) {
            if (Modifier.isPublic(m.getModifiers())) {
                DUE.holds(m.getName() + " never throws", neverThrows(m, ends));
            }
        }
    }

    private static boolean neverThrows(Method m, int[] ends) {
        DigFill x = new DigFill();
        Object[] given = new Object[m.getParameterCount()];
        for (int call = 0; call < 512; call++) {
            int drawn = call * 7 + 3;
            for (int i = 0; i < given.length; i++) {
                given[i] = ends[drawn % ends.length];
                drawn /= 3;
            }
            try {
                m.invoke(x, given);
            } catch (ReflectiveOperationException e) {
                System.out.println(e.getCause());
                return false;
            }
        }
        return true;
    }
}
