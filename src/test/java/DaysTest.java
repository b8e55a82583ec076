/** Promises 18 to 25: days, behind, paid, best, owes, debtor, dug, fine. */
final class DaysTest {
    private static final int HOLE = 0, GRAVE = 1, POND = 2, CRYPT = 3, DYKE = 4, SHAFT = 5;
    private static final int[] WRONG = {-1, Integer.MIN_VALUE, Integer.MAX_VALUE};
    private static final Due DUE = new Due("DaysTest");

    public static void main(String[] args) {
        promise18DaysByLot();
        promise18DaysToTheEnd();
        promise18LastDay();
        promise19Behind();
        promise20Paid();
        promise21Best();
        promise22Owes();
        promise23Debtor();
        promise24Dug();
        promise25Fine();
        DUE.end();
    }

    /** What a lot leads to, drawn here again. */
    private static int x(int z) {
        return (z >>> 8) % 10;
    }

    private static int next(int z) {
        return z * 1103515245 + 12345;
    }

    private static void promise18DaysByLot() {
        DigFill x = new DigFill();
        x.hole(HOLE, 1, 60, 0);
        x.hole(POND, 1, 0, 0); // filled: no draw, no age
        x.hole(POND, 1, 60, 0);
        x.hole(CRYPT, 1, 60, 0);
        DUE.is("days: none is filled but one", 1, x.days(4));
        int z = 1;
        int hole = 60;
        int pond = 60;
        for (int day = 0; day < 4; day++) {
            z = next(z);
            hole -= x(z) / 5;
            z = next(z);
            pond -= x(z) / 5 * 2;
            z = next(z);
        }
        DUE.is("days: the hole", hole, x.told(0, 2));
        DUE.is("days: the filled one", 0, x.told(1, 2));
        DUE.is("days: the pond", pond, x.told(2, 2));
        DUE.is("days: the crypt", 60, x.told(3, 2));
        DUE.is("days: lost", 120 - hole - pond, x.count(6));
        DUE.is("days: z", z, x.count(12));
        DUE.is("days: the day", 4, x.count(3));
        int[] ages = {4, 0, 4, 4};
        for (int h = 0; h < 4; h++) {
            DUE.is("days: age", ages[h], x.told(h, 4));
        }
        for (int n : new int[] {0, -1, 101, Integer.MIN_VALUE, Integer.MAX_VALUE}) {
            DUE.is("days(" + n + ")", DigFill.BAD, x.days(n));
        }
        DUE.is("days: refused ones change nothing", 4, x.count(3));
        DUE.is("days: a hundred", 0, new DigFill().days(100));
    }

    private static void promise18DaysToTheEnd() {
        DigFill x = new DigFill();
        x.hole(HOLE, 1, 20, 0);
        x.hole(GRAVE, 1, 3, 0);
        x.set(0, 4, 998);
        Due.text(x, "settle 7+a-a*(a<900)");
        // the hole is older than 900: 7 and its age, held at 9; the grave: 7 and one more, of which it has 3
        DUE.is("days: the grave is filled", 1, x.days(1));
        DUE.is("days: 20 less 9", 11, x.told(0, 2));
        DUE.is("days: not below 0", 0, x.told(1, 2));
        DUE.is("days: lost is what they had", 12, x.count(6));
        DUE.is("days: it grew older on that day", 1, x.told(1, 4));
        DUE.is("days: 999 now", 999, x.told(0, 4));
        x.days(1);
        DUE.is("days: 999 at most", 999, x.told(0, 4));
        DUE.is("days: a filled one grows no older", 1, x.told(1, 4));
        DUE.is("days: all are filled", 2, x.days(1));
        DUE.is("days: lost all", 23, x.count(6));
        int z = x.count(12);
        x.days(5);
        DUE.is("days: no draws for filled ones", z, x.count(12));
        DUE.is("days: they go by", 8, x.count(3));
        DigFill y = new DigFill();
        y.hole(HOLE, 1, 50, 0);
        Due.text(y, "settle (d=50)+2*(d=49)+5*(a=2)");
        y.days(1);
        DUE.is("days: depth as it is on the day", 49, y.told(0, 2));
        y.days(1);
        DUE.is("days: depth as it is on the day", 47, y.told(0, 2));
        y.days(1);
        DUE.is("days: age as it is on the day", 42, y.told(0, 2));
    }

    private static void promise18LastDay() {
        DigFill x = new DigFill();
        x.hole(CRYPT, 1, 50, 0);
        for (int i = 0; i < 99; i++) {
            x.days(100);
        }
        x.days(98);
        DUE.is("days: 9998", 9998, x.count(3));
        int z = next(x.count(12));
        DUE.is("days: no further than 9999", 0, x.days(100));
        DUE.is("days: 9999", 9999, x.count(3));
        DUE.is("days: one day's draw", z, x.count(12));
        DUE.is("days: none more", 0, x.days(1));
        DUE.is("days: 9999 still", 9999, x.count(3));
        DUE.is("days: no draw", z, x.count(12));
        x.turns(0, HOLE);
        Due.text(x, "settle 5");
        DUE.is("behind: is thought beyond it", 0, x.behind(10, 1));
        DUE.is("paid: is thought beyond it", 10, x.paid());
        x.sheet(0, 0, 2);
        x.mark(0, 0, 50);
        x.mark(0, 1, 44);
        DUE.is("dug: is thought beyond it", 1, x.dug(0, 1));
        x.turns(0, GRAVE);
        x.set(0, 4, 0);
        Due.text(x, "settle 0");
        x.want(1, 10);
        DUE.is("best: is thought beyond it", 3, x.best(5, 0));
    }

    private static void promise19Behind() {
        DigFill x = new DigFill();
        x.hole(HOLE, 1, 20, 0);
        x.hole(CRYPT, 9, 10, 0);
        x.hole(HOLE, 9, 0, 0);
        Due.text(x, "settle 3");
        x.want(1, 10); // e 12
        x.want(1, 5); // e 6
        int z = x.count(12);
        int[][] due = {
            // days, met, depths, filled
            {0, 1, 30, 1}, {1, 1, 27, 1}, {2, 1, 24, 1}, {3, 1, 21, 1}, {4, 1, 18, 1}, {5, 0, 15, 1}, {6, 0, 12, 1}, {7, 0, 10, 2},
            {100, 0, 10, 2}};
        for (int[] row : due) {
            for (int what = 0; what < 3; what++) {
                DUE.is("behind(" + row[0] + ", " + what + ")", row[what + 1], x.behind(row[0], what));
            }
        }
        int[] counts = {3, 1, 2, 0, 30, 0, 0, 10, 120, 1, 0, 0, z};
        for (int what = 0; what < counts.length; what++) {
            DUE.is("behind: nothing changes", counts[what], x.count(what));
        }
        DUE.is("behind: no age", 0, x.told(0, 4));
        int[][] wrong = {{-1, 0}, {101, 0}, {0, 3}, {0, -1}};
        for (int[] w : wrong) {
            DUE.is("behind(" + w[0] + ", " + w[1] + ")", DigFill.BAD, x.behind(w[0], w[1]));
        }
        for (int v : WRONG) {
            DUE.is("behind: n", DigFill.BAD, x.behind(v, 0));
            DUE.is("behind: what", DigFill.BAD, x.behind(0, v));
        }
        DigFill y = new DigFill();
        y.seed(6);
        y.deal(10);
        int thought = y.behind(37, 1);
        y.days(37);
        DUE.is("behind: as it comes", y.count(4), thought);
    }

    private static void promise20Paid() {
        DigFill x = new DigFill();
        DUE.is("paid: without holes", 0, x.paid());
        x.hole(HOLE, 1, 0, 0);
        DUE.is("paid: filled ones", 0, x.paid());
        x.hole(HOLE, 1, 99, 0);
        Due.text(x, "settle 1");
        DUE.is("paid: one by one", 99, x.paid());
        DUE.is("paid: nothing changes", 0, x.count(3));
        Due.text(x, "settle 9");
        DUE.is("paid: by nine", 11, x.paid());
        x.hole(CRYPT, 1, 1, 0);
        DUE.is("paid: a crypt never", DigFill.NONE, x.paid());
        x.turns(2, GRAVE);
        DUE.is("paid: by a grave the next day", 11, x.paid());
        // a depth of 98 by one in each third day, from the third on: 2, 5, .. 293: behind day 294
        DigFill y = new DigFill();
        y.hole(HOLE, 1, 98, 0);
        Due.text(y, "settle a-a/3*3=2");
        DUE.is("paid: behind 294 days", 294, y.paid());
        y.set(0, 2, 99);
        DUE.is("paid: behind 297 days", 297, y.paid());
        DigFill z = new DigFill();
        z.hole(HOLE, 1, 9, 0);
        Due.text(z, "settle 9*(a=299)");
        DUE.is("paid: behind 300 days", 300, z.paid());
        Due.text(z, "settle 9*(a=300)");
        DUE.is("paid: not behind 301", DigFill.NONE, z.paid());
    }

    private static void promise21Best() {
        DigFill x = new DigFill();
        x.hole(HOLE, 1, 50, 0);
        x.hole(GRAVE, 1, 50, 0);
        x.want(1, 10); // e 12
        x.want(1, 11); // e 13
        Due.text(x, "settle 0");
        Due.text(x, "law 5");
        DUE.is("best: now alone", 0, x.best(0, 0));
        DUE.is("best: one is met now", 1, x.best(0, 1));
        DUE.is("best: no better by 4", 0, x.best(4, 0));
        DUE.is("best: the grave is old enough", 5, x.best(5, 0));
        DUE.is("best: two are met then", 2, x.best(5, 1));
        DUE.is("best: the first such day", 5, x.best(30, 0));
        DUE.is("best: two are met then", 2, x.best(30, 1));
        DUE.is("best: nothing changes", 0, x.told(1, 4));
        int[][] wrong = {{-1, 0}, {31, 0}, {0, 2}, {0, -1}};
        for (int[] w : wrong) {
            DUE.is("best(" + w[0] + ", " + w[1] + ")", DigFill.BAD, x.best(w[0], w[1]));
        }
        for (int v : WRONG) {
            DUE.is("best: n", DigFill.BAD, x.best(v, 0));
            DUE.is("best: what", DigFill.BAD, x.best(0, v));
        }
        Due.text(x, "law 30");
        DUE.is("best: behind 30 days", 30, x.best(30, 0));
        DUE.is("best: not by 29", 0, x.best(29, 0));
        DUE.is("best: without wants", 0, new DigFill().best(30, 1));
        DUE.is("best: without wants", 0, new DigFill().best(30, 0));
    }

    private static void promise22Owes() {
        DigFill x = new DigFill();
        x.hole(HOLE, 1, 40, 7);
        x.hole(CRYPT, 1, 30, 0);
        x.hole(SHAFT, 1, 20, 7);
        DUE.is("owes: two holes", 60, x.owes(7));
        DUE.is("owes: one hole", 30, x.owes(0));
        DUE.is("owes: none", 0, x.owes(3));
        x.set(2, 3, 3);
        DUE.is("owes: another owner now", 20, x.owes(3));
        for (int v : new int[] {-1, 8, Integer.MIN_VALUE, Integer.MAX_VALUE}) {
            DUE.is("owes(" + v + ")", DigFill.BAD, x.owes(v));
        }
    }

    private static void promise23Debtor() {
        DigFill x = new DigFill();
        DUE.is("debtor: of all that owe nothing the least", 0, x.debtor());
        x.hole(HOLE, 1, 40, 7);
        DUE.is("debtor: the last", 7, x.debtor());
        x.hole(HOLE, 1, 20, 4);
        x.hole(HOLE, 1, 20, 4);
        DUE.is("debtor: of two the least", 4, x.debtor());
        x.set(1, 2, 19);
        DUE.is("debtor: by one more", 7, x.debtor());
        x.hole(HOLE, 1, 41, 0);
        DUE.is("debtor: the first", 0, x.debtor());
        for (int owner = 0; owner <= 7; owner++) {
            DigFill y = HolesTest.oneOfEach(3, 9, (owner + 1) % 8);
            y.set(0, 3, owner);
            y.set(0, 2, 46);
            DUE.is("debtor: any", owner, y.debtor());
        }
    }

    private static void promise24Dug() {
        DigFill x = new DigFill();
        x.sheet(0, 0, 3);
        DUE.is("dug: no holes", DigFill.NONE, x.dug(0, 0));
        DUE.is("dug: NOTHING comes ahead of NONE", DigFill.NOTHING, x.dug(1, 0));
        DUE.is("dug: BAD comes ahead of NOTHING", DigFill.BAD, x.dug(1, 2));
        x.hole(CRYPT, 1, 10, 0);
        x.hole(HOLE, 1, 14, 0);
        x.hole(HOLE, 1, 14, 0);
        Due.text(x, "settle 2");
        int[] marks = {14, 11, 8};
        for (int p = 0; p < 3; p++) {
            x.mark(0, p, marks[p]);
        }
        // the crypt: 4, 1, 2; the holes 14, 12, 10: 0, 1, 2
        DUE.is("dug: of two the least", 1, x.dug(0, 0));
        DUE.is("dug: together", 3, x.dug(0, 1));
        x.set(1, 2, 20);
        x.set(2, 2, 20);
        DUE.is("dug: the crypt", 0, x.dug(0, 0));
        DUE.is("dug: together", 7, x.dug(0, 1));
        x.sheet(1, 1, 24);
        for (int p = 0; p < 24; p++) {
            x.mark(1, p, p == 3 ? -99999 : p == 23 ? 99999 : DigFill.NONE);
        }
        // behind 3 days: 10, 14, 14; behind 23 days: 10, 0, 0
        DUE.is("dug: by numbers alone", 0, x.dug(1, 0));
        DUE.is("dug: by numbers alone", 99999 + 10 + 99999 - 10, x.dug(1, 1));
        x.turns(0, HOLE);
        DUE.is("dug: behind 3 days 4, behind 23 none", 0, x.dug(1, 0));
        DUE.is("dug: behind 3 days 4, behind 23 none", 99999 + 4 + 99999, x.dug(1, 1));
        x.sheet(2, 0, 0);
        DUE.is("dug: no places", 0, x.dug(2, 0));
        DUE.is("dug: no places", 0, x.dug(2, 1));
        DUE.is("dug: sheet", DigFill.BAD, x.dug(4, 0));
        for (int v : WRONG) {
            DUE.is("dug: sheet", DigFill.BAD, x.dug(v, 0));
            DUE.is("dug: what", DigFill.BAD, x.dug(0, v));
        }
        DUE.is("dug: nothing changes", 0, x.count(3));
        DUE.is("dug: nothing changes", 50, x.count(4));
    }

    private static void promise25Fine() {
        DigFill x = new DigFill();
        x.hole(HOLE, 1, 40, 7);
        x.hole(HOLE, 1, 30, 7);
        DUE.is("fine: without a text", 70, x.fine(7));
        DUE.is("fine: without a text", 0, x.fine(0));
        Due.text(x, "fine 3*e-1000*l");
        DUE.is("fine: by text", 210, x.fine(7));
        DUE.is("fine: by text", 0, x.fine(0));
        x.dig(1, 10, 0, 7); // 12 of earth; 10 lifted, and a hole of 10
        DUE.is("fine: not held", 3 * 68 - 10000, x.fine(7));
        Due.text(x, "fine 9999*9999*9999");
        DUE.is("fine: wraps", 9999 * 9999 * 9999, x.fine(7));
        for (int v : new int[] {-1, 8, Integer.MIN_VALUE, Integer.MAX_VALUE}) {
            DUE.is("fine(" + v + ")", DigFill.BAD, x.fine(v));
        }
    }
}
