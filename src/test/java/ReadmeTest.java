import java.io.IOException;
import java.lang.reflect.Method;
import java.lang.reflect.Modifier;
import java.nio.file.Files;
import java.nio.file.Path;
import java.util.regex.Matcher;
import java.util.regex.Pattern;

/** README.md: each line of its code answers what stands behind it. Run where the project stands. */
final class ReadmeTest {
    private static final Due DUE = new Due("ReadmeTest");
    private static final Pattern CALL = Pattern.compile("x\\.(\\w+)\\(([^)]*)\\); +// (-?\\w+)(:.*)?");
    private static final Pattern SAY = Pattern.compile("say\\(x, \"([^\"]*)\"\\); +// (-?\\w+)(:.*)?");

    public static void main(String[] args) throws IOException, ReflectiveOperationException {
        String page = Files.readString(Path.of("README.md"));
        String own = Files.readString(Path.of("src/test/java/ReadmeTest.java"));
        Matcher block = Pattern.compile("(?s)```java\n(.*?)```").matcher(page);
        while (block.find()) {
            if (block.group(1).startsWith("static ")) {
                DUE.holds("say is the one that is used here", own.replaceAll("(?m)^ {4}", "").contains(block.group(1)));
            } else {
                run(block.group(1));
            }
        }
        namesAll(page);
        DUE.end();
    }

    private static void run(String block) throws ReflectiveOperationException {
        DigFill x = null;
        for (String line : block.split("\n")) {
            Matcher call = CALL.matcher(line);
            Matcher say = SAY.matcher(line);
            if (line.equals("DigFill x = new DigFill();")) {
                x = new DigFill();
            } else if (call.matches()) {
                DUE.is(line, number(call.group(3)), answer(x, call.group(1), call.group(2)));
            } else {
                DUE.is(line, number(say.matches() ? say.group(2) : "0"), say.matches() ? say(x, say.group(1)) : Long.MIN_VALUE);
            }
        }
    }

    private static int answer(DigFill x, String name, String arguments) throws ReflectiveOperationException {
        String[] words = arguments.isEmpty() ? new String[0] : arguments.split(", ");
        Object[] given = new Object[words.length];
        Class<?>[] sorts = new Class<?>[words.length];
        for (int i = 0; i < words.length; i++) {
            given[i] = number(words[i]);
            sorts[i] = int.class;
        }
        return (Integer) DigFill.class.getMethod(name, sorts).invoke(x, given);
    }

    private static int number(String word) throws ReflectiveOperationException {
        return word.matches("[A-Z]+") ? DigFill.class.getField(word).getInt(null) : Integer.parseInt(word);
    }

    static int say(DigFill x, String text) {
        x.trim(0);
        for (int i = 0; i < text.length(); i += 12) {
            x.feed(four(text, i), four(text, i + 4), four(text, i + 8));
        }
        x.trim(text.length());
        return x.text();
    }

    static int four(String text, int from) {
        int bytes = 0;
        for (int i = from; i < from + 4; i++) {
            bytes = bytes << 8 | (i < text.length() ? text.charAt(i) & 255 : ' ');
        }
        return bytes;
    }

    /** The page names each call, each constant and each test. */
    private static void namesAll(String page) throws IOException {
        for (Method m : DigFill.class.getDeclaredMethods()) {
            boolean open = Modifier.isPublic(m.getModifiers());
            DUE.holds(m.getName() + " is named", !open || page.contains("`" + m.getName() + "`"));
            DUE.holds(m.getName() + " is shown", !open || page.contains("x." + m.getName() + "("));
        }
        for (String constant : "BAD NO FULL NONE NOTHING KIND INDEX SIZE".split(" ")) {
            DUE.holds(constant + " is told", page.contains("| `" + constant + "` |"));
        }
        try (var files = Files.list(Path.of("src/test/java"))) {
            for (Path file : files.filter(f -> f.toString().endsWith("Test.java")).toList()) {
                String test = file.getFileName().toString().replace(".java", "");
                DUE.holds(test + " is told", page.contains("`" + test + "`"));
            }
        }
    }
}
