import java.io.IOException;
import java.lang.reflect.Method;
import java.lang.reflect.Modifier;
import java.nio.charset.StandardCharsets;
import java.nio.file.Files;
import java.nio.file.Path;
import java.util.Arrays;
import java.util.BitSet;
import java.util.Comparator;
import java.util.HashSet;
import java.util.Set;
import java.util.regex.Matcher;
import java.util.regex.Pattern;

/**
 * Runs tests of boundary cases. Each static method of a class that takes an Edges alone is one test; it says first the
 * words of the document that it holds, so that a failure tells which sentence is broken.
 */
final class Edges {
    static final int BAD = -1000000001, NO = -1000000002, FULL = -1000000003, NONE = -1000000005;
    static final int NOTHING = -1000000011, KIND = -1000000012, INDEX = -1000000013, SIZE = -1000000014;
    private static final int MIN = Integer.MIN_VALUE, MAX = Integer.MAX_VALUE;

    private final Due due = new Due("EdgesTest");
    private final String document;
    private final BitSet quoted = new BitSet();
    private final Set<String> failed = new HashSet<>();
    private String test = "";
    private String words = "";
    private int tests = 0;

    Edges() throws IOException {
        document = Files.readString(Path.of("../shared/DOC.md"), StandardCharsets.UTF_8);
    }

    void run(Class<?> of) throws ReflectiveOperationException {
        Method[] methods = of.getDeclaredMethods();
        Arrays.sort(methods, Comparator.comparing(Method::getName));
        for (Method m : methods) {
            boolean isTest = Modifier.isStatic(m.getModifiers()) && m.getParameterCount() == 1 && m.getParameterTypes()[0] == Edges.class;
            if (isTest) {
                test = of.getSimpleName() + "." + m.getName();
                words = "";
                m.invoke(null, this);
                due.holds(test + " says its sentence", !words.isEmpty());
                tests++;
            }
        }
    }

    /** The words must stand in the document, once. */
    void says(String sentence) {
        words = sentence;
        int at = document.indexOf(sentence);
        due.holds(test + ": the document says once: " + sentence, at >= 0 && document.indexOf(sentence, at + 1) < 0);
        if (at >= 0) {
            quoted.set(at, at + sentence.length());
        }
    }

    void is(String call, long want, long got) {
        if (want != got && failed.add(test)) {
            System.out.println("BROKEN: " + words + " (" + test + ")");
        }
        due.is(test + ": " + call, want, got);
    }

    void holds(String what, boolean so) {
        is(what, 1, so ? 1 : 0);
    }

    void due(int want, DigFill x, String call) {
        is(call, want, answer(x, call));
    }

    void each(int want, DigFill x, String... calls) {
        for (String call : calls) {
            due(want, x, call);
        }
    }

    /** The argument ? of a call may be least .. most: at both ends it isn't BAD, beyond them it is. */
    void bounds(int least, int most, String call, String... made) {
        for (int v : new int[] {least, most}) {
            String at = call.replace("?", Integer.toString(v));
            holds(at + " is within", answer(made(made), at) > BAD);
        }
        for (int v : new int[] {least - 1, most + 1, MIN, MAX}) {
            due(BAD, made(made), call.replace("?", Integer.toString(v)));
        }
    }

    static DigFill made(String... calls) {
        DigFill x = new DigFill();
        for (String call : calls) {
            answer(x, call);
        }
        return x;
    }

    /** A call as a line: its name and its numbers; "say law d" feeds a text and reads it. No int: it threw. */
    static long answer(DigFill x, String call) {
        if (call.startsWith("say ")) {
            return Due.text(x, call.substring(4));
        }
        String[] parts = call.split(" ");
        Object[] given = new Object[parts.length - 1];
        Class<?>[] sorts = new Class<?>[given.length];
        for (int i = 0; i < given.length; i++) {
            given[i] = number(parts[i + 1]);
            sorts[i] = int.class;
        }
        try {
            return (Integer) DigFill.class.getMethod(parts[0], sorts).invoke(x, given);
        } catch (ReflectiveOperationException e) {
            System.out.println(call + ": " + (e.getCause() == null ? e : e.getCause()));
            return Long.MIN_VALUE;
        }
    }

    private static int number(String word) {
        switch (word) {
            case "MIN": return MIN;
            case "MAX": return MAX;
            case "NONE": return NONE;
            default: return Integer.parseInt(word);
        }
    }

    /** The draws, worked out here once more. */
    static int next(int z) {
        return (int) (z * 1103515245L + 12345L);
    }

    static int lot(int z) {
        return (int) ((z & 0xffffffffL) / 256);
    }

    /** A program whose DAY is as late as that: without HOLES that is soon made. */
    static DigFill onDay(int day, String... made) {
        DigFill x = new DigFill();
        for (int left = day; left > 0; left -= 100) {
            x.days(Math.min(100, left));
        }
        for (String call : made) {
            answer(x, call);
        }
        return x;
    }

    /** No word of the terms and the promises but their headings is left without a test that says it. */
    void coverAll() {
        int from = document.indexOf("## Terms");
        int to = document.indexOf("## Not promised");
        due.holds("the document has terms and promises", from >= 0 && from < to);
        Matcher m = Pattern.compile("(?m)^(#|Ahead of |```).*$|\\w+").matcher(document);
        m.region(Math.max(0, from), Math.max(0, to));
        while (m.find()) {
            boolean heading = m.group(1) != null || m.group().equals("and");
            int end = Math.min(document.length(), m.end() + 20);
            due.holds("a test says: .." + document.substring(Math.max(0, m.start() - 40), end) + "..", heading || quoted.get(m.start()));
        }
    }

    void end() {
        System.out.println("EdgesTest: " + tests + " tests, " + failed.size() + " failed");
        due.end();
    }
}
