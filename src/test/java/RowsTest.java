/** Promises 40 to 44: tell, check, keep, back, count. */
final class RowsTest {
    private static final Due DUE = new Due("RowsTest");

    public static void main(String[] args) {
        promise40Tell();
        promise41Check();
        promise41CheckByTheImage();
        promise41CheckOfThirty();
        promise41CheckAtTheLastDay();
        promise42Keep();
        promise43Back();
        promise43BackToTexts();
        promise44Count();
        DUE.end();
    }

    private static void tell(DigFill x, int... values) {
        for (int v : values) {
            x.tell(v);
        }
    }

    private static void promise40Tell() {
        DigFill x = new DigFill();
        for (int n = 1; n <= 60; n++) {
            DUE.is("tell: how many", n, x.tell(n % 2 == 0 ? Integer.MIN_VALUE : n));
        }
        DUE.is("tell: the sixty-first", DigFill.FULL, x.tell(0));
        DUE.is("tell: sixty wait", 60, x.count(10));
        x.check(1);
        DUE.is("tell: anew", 1, x.tell(0));
    }

    /** By 3 each day: a hole of 10 and one of 5, and a filled one. */
    private static DigFill kept() {
        DigFill x = new DigFill();
        x.hole(0, 1, 10, 0);
        x.hole(0, 1, 5, 0);
        x.hole(0, 1, 0, 0);
        Due.text(x, "settle 3");
        x.keep();
        return x;
    }

    private static void promise41Check() {
        DigFill x = kept();
        int[] due = {9, 1, 4, 2, 1, 2, 0, 3, 0, 3};
        tell(x, due);
        DUE.is("check: all", 0, x.check(5));
        DUE.is("check: none wait", 0, x.count(10));
        DUE.is("check: the first is missing", 1, x.check(5));
        for (int wrong = 0; wrong < due.length; wrong++) {
            int[] told = due.clone();
            told[wrong]++;
            tell(x, told);
            DUE.is("check: wrong at " + wrong, 1 + wrong, x.check(5));
            DUE.is("check: none wait", 0, x.count(10));
            tell(x, java.util.Arrays.copyOf(due, wrong));
            DUE.is("check: missing at " + wrong, 1 + wrong, x.check(5));
        }
        tell(x, due);
        DUE.is("check: too many", 9, x.check(4));
        tell(x, due);
        x.tell(0);
        DUE.is("check: one too many", 11, x.check(5));
        tell(x, 9, 1);
        DUE.is("check: one day", 0, x.check(1));
        for (int n : new int[] {0, -1, 31, Integer.MIN_VALUE, Integer.MAX_VALUE}) {
            tell(x, due);
            DUE.is("check(" + n + ")", DigFill.BAD, x.check(n));
            DUE.is("check: none wait behind BAD", 0, x.count(10));
        }
        DigFill y = new DigFill();
        y.tell(1);
        DUE.is("check: no image", DigFill.NO, y.check(1));
        DUE.is("check: none wait behind NO", 0, y.count(10));
        DUE.is("check: BAD comes ahead of NO", DigFill.BAD, y.check(31));
        y.keep();
        tell(y, 0, 0, 0, 0);
        DUE.is("check: of no holes", 0, y.check(2));
    }

    private static void promise41CheckByTheImage() {
        DigFill x = kept();
        x.days(3);
        x.hole(0, 1, 50, 0);
        Due.text(x, "settle 9");
        int z = x.count(12);
        tell(x, 9, 1, 4, 2);
        DUE.is("check: by the image's holes and texts", 0, x.check(2));
        DUE.is("check: nothing changes", 3, x.count(3));
        DUE.is("check: nothing changes", z, x.count(12));
        DUE.is("check: nothing changes", 51, x.count(4));
        DUE.is("check: the image stays", 3, x.back());
        DUE.is("check: the image stays", 15, x.count(4));
        DigFill y = new DigFill();
        y.seed(77);
        y.deal(9);
        y.days(2);
        y.keep();
        for (int day = 0; day < 3; day++) {
            y.days(1);
            tell(y, y.count(4), y.count(1));
        }
        y.seed(5);
        DUE.is("check: by the image's z", 0, y.check(3));
    }

    private static void promise41CheckOfThirty() {
        DigFill x = new DigFill();
        x.hole(0, 1, 99, 0);
        Due.text(x, "settle 3");
        x.keep();
        for (int day = 1; day <= 30; day++) {
            tell(x, 99 - 3 * day, 0);
        }
        DUE.is("check: thirty days", 0, x.check(30));
        for (int day = 1; day <= 30; day++) {
            tell(x, 99 - 3 * day, day == 30 ? 1 : 0);
        }
        DUE.is("check: the last of sixty", 60, x.check(30));
    }

    private static void promise41CheckAtTheLastDay() {
        DigFill x = new DigFill();
        x.hole(3, 1, 8, 0);
        for (int i = 0; i < 99; i++) {
            x.days(100);
        }
        x.days(97);
        x.keep();
        tell(x, 8, 0, 8, 0);
        DUE.is("check: two days to 9999", 0, x.check(30));
        tell(x, 8, 0, 8, 0, 8, 0);
        DUE.is("check: no third", 5, x.check(3));
        x.days(2);
        tell(x, 8, 0, 8, 0);
        DUE.is("check: by the image's day", 0, x.check(30));
        x.keep();
        DUE.is("check: none is due at 9999", 0, x.check(30));
        x.tell(8);
        DUE.is("check: one too many at 9999", 1, x.check(1));
    }

    private static void promise42Keep() {
        DigFill x = new DigFill();
        DUE.is("keep: none", 0, x.keep());
        x.deal(4);
        DUE.is("keep: four", 4, x.keep());
        x.deal(2);
        DUE.is("keep: the last image", 4, x.back());
        x.deal(6);
        DUE.is("keep: ten", 10, x.keep());
        DUE.is("keep: nothing changes", 10, x.count(0));
    }

    private static int[] counts(DigFill x) {
        int[] counts = new int[13];
        for (int what = 0; what < 13; what++) {
            counts[what] = x.count(what);
        }
        return counts;
    }

    private static DigFill lived() {
        DigFill x = new DigFill();
        x.seed(9);
        x.deal(5);
        x.hole(5, 20, 80, 2);
        x.dig(7, 11, 5, 3);
        x.want(4, 6);
        x.want(20, 9);
        x.rule(0, 13);
        x.rule(1, 90);
        Due.text(x, "settle 1+x/3");
        x.days(2);
        return x;
    }

    private static void promise43Back() {
        DigFill x = lived();
        DUE.is("back: no image", DigFill.NO, x.back());
        x.keep();
        int[] were = counts(x);
        int[][] parts = new int[7][6];
        for (int h = 0; h < 7; h++) {
            for (int what = 0; what < 6; what++) {
                parts[h][what] = x.told(h, what);
            }
        }
        int met = x.dealing(0);
        int miles = x.dealing(1);
        for (int times = 0; times < 3; times++) {
            x.days(9);
            x.turns(0, 5);
            x.set(1, 1, 29);
            x.set(1, 2, 98);
            x.set(2, 3, 7);
            x.set(2, 4, 99);
            x.forget();
            x.want(29, 99);
            x.turns(1, 5);
            DUE.is("back: one more is dug", 7, x.dig(3, 20, 1, 1));
            x.rule(0, 0);
            x.rule(1, 200);
            x.deal(10);
            x.tell(3);
            x.feed(1, 2, 3);
            x.mark(0, 0, 5);
            DUE.is("back: seven", 7, x.back());
            for (int what = 0; what < 13; what++) {
                int due = what == 10 || what == 11 ? (times + 1) * (what == 10 ? 1 : 12) : were[what];
                DUE.is("back: count(" + what + ")", due, x.count(what));
            }
            for (int h = 0; h < 7; h++) {
                for (int what = 0; what < 6; what++) {
                    DUE.is("back: told(" + h + ", " + what + ")", parts[h][what], x.told(h, what));
                }
            }
            DUE.is("back: no eighth", DigFill.BAD, x.told(7, 0));
            DUE.is("back: the wants are met as before", met, x.dealing(0));
            DUE.is("back: with as many miles", miles, x.dealing(1));
        }
        x.sheet(0, 0, 2);
        x.mark(0, 1, 8);
        x.lay(0, 3, 17);
        x.back();
        x.lay(1, 2, 0);
        DUE.is("back: sheets stay", 8, x.item(1, 1));
        DUE.is("back: slots stay", 2, x.rest(0, 5));
    }

    private static void promise43BackToTexts() {
        DigFill x = new DigFill();
        Due.text(x, "fine 1");
        x.keep();
        for (int times = 2; times < 5; times++) {
            DUE.is("back: a text's number", 1, Due.text(x, "fine " + times));
            DUE.is("back: it counts", times, x.fine(0));
            Due.text(x, "law 5");
            DUE.is("back: three texts", 3, x.count(9));
            x.back();
            DUE.is("back: one text", 1, x.count(9));
            DUE.is("back: the old one counts", 1, x.fine(0));
            DUE.is("back: the old one counts", 0, x.why(2));
            DUE.is("back: no law", DigFill.NONE, x.why(0));
            DUE.is("back: no second text", DigFill.BAD, x.textTold(1, 0));
        }
        Due.text(x, "settle 5");
        x.keep();
        x.back();
        DUE.is("back: the texts of the last image", 1, x.why(1));
        DigFill y = new DigFill();
        y.keep();
        Due.text(y, "fine 8*e");
        Due.text(y, "settle 7");
        y.back();
        DUE.is("back: to none", DigFill.NONE, y.why(2));
        y.hole(0, 1, 10, 0);
        DUE.is("back: OWES again", 10, y.fine(0));
        DUE.is("back: x / 5 again", 1, y.settles(0, 9));
    }

    private static void promise44Count() {
        DigFill x = new DigFill();
        x.hole(5, 1, 60, 1);
        x.hole(0, 1, 0, 1);
        x.hole(0, 1, 3, 1);
        x.dig(2, 10, 0, 2); // 12 of earth
        x.want(1, 1);
        x.want(1, 2);
        x.rule(0, 21);
        x.rule(1, 77);
        Due.text(x, "settle 2");
        Due.text(x, "law 1");
        x.tell(5);
        x.tell(6);
        x.tell(7);
        x.days(1); // the shaft by none or one, the others by 2
        Due.feed(x, "law");
        int shaft = ((1103515245 + 12345) >>> 8) % 10 / 9;
        int z = 1;
        for (int draws = 0; draws < 3; draws++) {
            z = z * 1103515245 + 12345;
        }
        int[] due = {4, 1, 2, 1, 48 - shaft + 1 + 8, 10, shaft + 4, 21, 77, 2, 3, 3, z};
        for (int what = 0; what < due.length; what++) {
            DUE.is("count(" + what + ")", due[what], x.count(what));
        }
        for (int v : new int[] {-1, 13, Integer.MIN_VALUE, Integer.MAX_VALUE}) {
            DUE.is("count(" + v + ")", DigFill.BAD, x.count(v));
        }
    }
}
