/** Counts the answers of one test that are not as due, and ends its program with exit code 1 if there was one. */
final class Due {
    private final String test;
    private int asked = 0;
    private int wrong = 0;

    Due(String test) {
        this.test = test;
    }

    void is(String call, long want, long got) {
        asked++;
        if (got != want) {
            wrong++;
            System.out.println(test + ": " + call + " answered " + got + ", due is " + want);
        }
    }

    void holds(String what, boolean so) {
        is(what, 1, so ? 1 : 0);
    }

    void end() {
        System.out.println(test + ": " + asked + " asked, " + wrong + " wrong");
        if (wrong != 0) {
            System.exit(1);
        }
    }

    /** The bytes of a text come to the tape of a program, cut to its length. */
    static void feed(DigFill x, String text) {
        int held = x.count(11);
        for (int i = 0; i < text.length(); i += 12) {
            x.feed(four(text, i), four(text, i + 4), four(text, i + 8));
        }
        x.trim(held + text.length());
    }

    static int four(String text, int from) {
        int v = 0;
        for (int i = from; i < from + 4; i++) {
            v = v << 8 | (i < text.length() ? text.charAt(i) & 255 : 32);
        }
        return v;
    }

    static int text(DigFill x, String text) {
        feed(x, text);
        return x.text();
    }
}
