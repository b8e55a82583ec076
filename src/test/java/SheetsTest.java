/** Promises 31 to 39: sheet, mark, pour, reads, copy, lay, ask, item, rest. */
final class SheetsTest {
    private static final int[] WRONG = {-1, Integer.MIN_VALUE, Integer.MAX_VALUE};
    private static final int NO_NUMBER = DigFill.NONE;
    private static final Due DUE = new Due("SheetsTest");

    public static void main(String[] args) {
        promise31Sheet();
        promise32Mark();
        promise33Pour();
        promise34Reads();
        promise35Copy();
        promise35CopyRefused();
        promise36Lay();
        promise36LayKeeps();
        promise37Ask();
        promise38Item();
        promise39Rest();
        DUE.end();
    }

    /** A place of a sheet, by way of the last slot. */
    private static int at(DigFill x, int sheet, int place) {
        x.lay(4, 2, sheet);
        return x.item(4, place);
    }

    private static void row(DigFill x, int sheet, int sort, int... values) {
        x.sheet(sheet, sort, values.length);
        for (int p = 0; p < values.length; p++) {
            x.mark(sheet, p, values[p]);
        }
    }

    private static void isRow(String what, DigFill x, int sheet, int... values) {
        for (int p = 0; p < values.length; p++) {
            DUE.is(what + ": place " + p, values[p] == NO_NUMBER ? DigFill.KIND : values[p], at(x, sheet, p));
        }
        DUE.is(what + ": places", DigFill.INDEX, at(x, sheet, values.length));
    }

    private static void promise31Sheet() {
        DigFill x = new DigFill();
        DUE.is("sheet: the least", 0, x.sheet(0, 0, 0));
        DUE.is("sheet: the greatest", 24, x.sheet(3, 1, 24));
        DUE.is("sheet: no places", DigFill.INDEX, x.mark(0, 0, 1));
        isRow("sheet: all 0", x, 3, new int[24]);
        DUE.is("sheet: too many", DigFill.BAD, x.sheet(1, 0, 25));
        DUE.is("sheet: too many", DigFill.BAD, x.sheet(1, 1, Integer.MAX_VALUE));
        DUE.is("sheet: below 0", DigFill.SIZE, x.sheet(1, 0, -1));
        DUE.is("sheet: below 0", DigFill.SIZE, x.sheet(1, 1, Integer.MIN_VALUE));
        DUE.is("sheet: sort", DigFill.BAD, x.sheet(1, 2, 3));
        DUE.is("sheet: sort", DigFill.BAD, x.sheet(1, -2, 3));
        DUE.is("sheet: BAD comes ahead of SIZE", DigFill.BAD, x.sheet(4, 0, -1));
        DUE.is("sheet: BAD comes ahead of SIZE", DigFill.BAD, x.sheet(1, 2, -1));
        for (int v : new int[] {-1, 4, Integer.MIN_VALUE, Integer.MAX_VALUE}) {
            DUE.is("sheet: sheet", DigFill.BAD, x.sheet(v, 0, 1));
            DUE.is("sheet: sheet", DigFill.BAD, x.sheet(v, -1, 1));
        }
        DUE.is("sheet: refused ones change nothing", DigFill.NOTHING, x.reads(1));
        row(x, 2, 0, 5, 6, 7);
        DUE.is("sheet: refused ones change nothing", DigFill.BAD, x.sheet(2, 0, 25));
        isRow("sheet: as it was", x, 2, 5, 6, 7);
        DUE.is("sheet: anew", 2, x.sheet(2, 1, 2));
        isRow("sheet: all 0 again", x, 2, 0, 0);
        DUE.is("sheet: of floats now", 1, x.mark(2, 0, 70000));
        for (int n : new int[] {0, 7, 25, -1, Integer.MIN_VALUE, Integer.MAX_VALUE}) {
            x.sheet(2, 0, 3);
            DUE.is("sheet: missing, with n " + n, 0, x.sheet(2, -1, n));
            DUE.is("sheet: missing", DigFill.NOTHING, x.mark(2, 0, 1));
        }
    }

    private static void promise32Mark() {
        DigFill x = new DigFill();
        row(x, 0, 0, 1, 2, 3);
        int[][] shorts = {{32767, 32767}, {-32768, -32768}, {32768, -32768}, {65535, -1}, {65536 + 9, 9}, {Integer.MIN_VALUE, 0},
            {Integer.MAX_VALUE, -1}, {NO_NUMBER + 1, (short) (NO_NUMBER + 1)}};
        for (int[] s : shorts) {
            DUE.is("mark: a short", 1, x.mark(0, 1, s[0]));
            isRow("mark: lowest 16 bits of " + s[0], x, 0, 1, s[1], 3);
        }
        DUE.is("mark: no number of shorts", DigFill.KIND, x.mark(0, 1, NO_NUMBER));
        DUE.is("mark: INDEX comes ahead of KIND", DigFill.INDEX, x.mark(0, 3, NO_NUMBER));
        row(x, 1, 1, 1, 2, 3);
        for (int v : new int[] {99999, -99999, 40000, NO_NUMBER, 0}) {
            DUE.is("mark: a float", 1, x.mark(1, 2, v));
            isRow("mark: " + v, x, 1, 1, 2, v);
        }
        for (int v : new int[] {100000, -100000, NO_NUMBER + 1, NO_NUMBER - 1, Integer.MIN_VALUE, Integer.MAX_VALUE}) {
            DUE.is("mark: beyond", DigFill.BAD, x.mark(1, 2, v));
            DUE.is("mark: INDEX comes ahead of it", DigFill.INDEX, x.mark(1, 3, v));
        }
        isRow("mark: refused ones change nothing", x, 1, 1, 2, 0);
        for (int v : WRONG) {
            DUE.is("mark: place", DigFill.INDEX, x.mark(0, v, 1));
            DUE.is("mark: sheet", DigFill.BAD, x.mark(v, 0, 1));
            DUE.is("mark: NOTHING comes ahead of INDEX", DigFill.NOTHING, x.mark(2, v, 1));
        }
        DUE.is("mark: sheet", DigFill.BAD, x.mark(4, 0, 1));
    }

    private static void promise33Pour() {
        DigFill x = new DigFill();
        row(x, 0, 0, 5, 5, 5);
        DUE.is("pour: no holes", 0, x.pour(0));
        x.hole(0, 1, 10, 1);
        x.hole(3, 2, 20, 2);
        x.hole(0, 3, 30, 3);
        x.hole(0, 4, 40, 4);
        row(x, 0, 0, -1, 20, 100);
        DUE.is("pour: two are otherwise", 2, x.pour(0));
        int[] depths = {0, 20, 99, 40};
        for (int h = 0; h < 4; h++) {
            DUE.is("pour: depth", depths[h], x.told(h, 2));
            DUE.is("pour: owner", h + 1, x.told(h, 3));
        }
        DUE.is("pour: none is otherwise now", 0, x.pour(0));
        row(x, 1, 1, 7, NO_NUMBER, 99999, NO_NUMBER, 6, 6);
        DUE.is("pour: by numbers alone", 1, x.pour(1));
        int[] then = {7, 20, 99, 40};
        for (int h = 0; h < 4; h++) {
            DUE.is("pour: depth", then[h], x.told(h, 2));
        }
        DUE.is("pour: no hole comes", 4, x.count(0));
        DUE.is("pour: nothing is lost", 0, x.count(6));
        isRow("pour: the sheet stays", x, 1, 7, NO_NUMBER, 99999, NO_NUMBER, 6, 6);
        DUE.is("pour: missing", DigFill.NOTHING, x.pour(2));
        for (int v : new int[] {-1, 4, Integer.MIN_VALUE, Integer.MAX_VALUE}) {
            DUE.is("pour(" + v + ")", DigFill.BAD, x.pour(v));
        }
    }

    private static void promise34Reads() {
        DigFill x = new DigFill();
        x.sheet(0, 0, 0);
        DUE.is("reads: no places", DigFill.NONE, x.reads(0));
        x.hole(0, 1, 10, 1);
        x.hole(0, 1, 20, 1);
        row(x, 0, 0, 10, 20);
        DUE.is("reads: all are", DigFill.NONE, x.reads(0));
        row(x, 0, 0, 10, 20, 0);
        DUE.is("reads: no such hole", 2, x.reads(0));
        row(x, 0, 0, 10, 21, 0);
        DUE.is("reads: the first", 1, x.reads(0));
        row(x, 0, 0, 11, 21, 0);
        DUE.is("reads: the first", 0, x.reads(0));
        row(x, 0, 0, 10);
        DUE.is("reads: fewer places than holes", DigFill.NONE, x.reads(0));
        row(x, 1, 1, NO_NUMBER, 20, NO_NUMBER, NO_NUMBER);
        DUE.is("reads: of numbers alone", DigFill.NONE, x.reads(1));
        row(x, 1, 1, NO_NUMBER, 20, NO_NUMBER, -3);
        DUE.is("reads: of numbers alone", 3, x.reads(1));
        DUE.is("reads: missing", DigFill.NOTHING, x.reads(2));
        for (int v : new int[] {-1, 4, Integer.MIN_VALUE, Integer.MAX_VALUE}) {
            DUE.is("reads(" + v + ")", DigFill.BAD, x.reads(v));
        }
    }

    private static void promise35Copy() {
        DigFill x = new DigFill();
        row(x, 0, 0, 1, 2, 3, 4, 5);
        row(x, 1, 0, 9, 9, 9);
        DUE.is("copy: three of five", 3, x.copy(0, 2, 1, 0, 3));
        isRow("copy: they came", x, 1, 3, 4, 5);
        isRow("copy: they stay", x, 0, 1, 2, 3, 4, 5);
        DUE.is("copy: one", 1, x.copy(1, 0, 0, 4, 1));
        isRow("copy: to another place", x, 0, 1, 2, 3, 4, 3);
        DUE.is("copy: on within a row", 4, x.copy(0, 0, 0, 1, 4));
        isRow("copy: as they were", x, 0, 1, 1, 2, 3, 4);
        DUE.is("copy: back within a row", 4, x.copy(0, 1, 0, 0, 4));
        isRow("copy: as they were", x, 0, 1, 2, 3, 4, 4);
        row(x, 2, 1, NO_NUMBER, 7);
        row(x, 3, 1, 5, 5);
        DUE.is("copy: no number", 2, x.copy(2, 0, 3, 0, 2));
        isRow("copy: no number", x, 3, NO_NUMBER, 7);
        DUE.is("copy: none", 0, x.copy(2, 2, 3, 2, 0));
        DUE.is("copy: none", 0, x.copy(2, 0, 3, 0, 0));
        isRow("copy: none", x, 3, NO_NUMBER, 7);
    }

    private static void promise35CopyRefused() {
        DigFill x = new DigFill();
        row(x, 0, 0, 1, 2, 3);
        row(x, 1, 0, 7, 8);
        row(x, 2, 1, 4, 4, 4);
        int[][] index = {{0, 2, 1, 0, 2}, {0, 0, 1, 1, 2}, {0, -1, 1, 0, 1}, {0, 0, 1, -1, 1}, {0, 0, 1, 0, -1}, {0, 4, 1, 0, 0},
            {0, 0, 1, 3, 0}, {0, 3, 1, 0, 1}, {0, 0, 1, 2, 1}, {0, 1, 1, 0, Integer.MAX_VALUE}, {0, Integer.MAX_VALUE, 1, 0, 1},
            {0, 0, 1, Integer.MAX_VALUE, 1}, {0, Integer.MIN_VALUE, 1, 0, 1}, {0, 0, 1, 0, Integer.MIN_VALUE}};
        for (int[] c : index) {
            DUE.is("copy: " + java.util.Arrays.toString(c), DigFill.INDEX, x.copy(c[0], c[1], c[2], c[3], c[4]));
        }
        DUE.is("copy: of two sorts", DigFill.KIND, x.copy(0, 0, 2, 0, 1));
        DUE.is("copy: of two sorts", DigFill.KIND, x.copy(2, 0, 0, 0, 1));
        DUE.is("copy: KIND comes ahead of INDEX", DigFill.KIND, x.copy(2, 0, 0, 0, 9));
        DUE.is("copy: from a missing one", DigFill.NOTHING, x.copy(3, 0, 0, 0, 1));
        DUE.is("copy: to a missing one", DigFill.NOTHING, x.copy(0, 0, 3, 0, 1));
        DUE.is("copy: NOTHING comes ahead of INDEX", DigFill.NOTHING, x.copy(3, -1, 2, 0, 1));
        for (int v : new int[] {-1, 4, Integer.MIN_VALUE, Integer.MAX_VALUE}) {
            DUE.is("copy: from", DigFill.BAD, x.copy(v, 0, 3, 0, 1));
            DUE.is("copy: to", DigFill.BAD, x.copy(3, 0, v, 0, 1));
        }
        isRow("copy: refused ones change nothing", x, 0, 1, 2, 3);
        isRow("copy: refused ones change nothing", x, 1, 7, 8);
    }

    private static void promise36Lay() {
        DigFill x = new DigFill();
        x.hole(0, 1, 10, 1);
        x.sheet(2, 0, 3);
        DUE.is("lay: a hole on nothing", 0, x.lay(0, 1, 0));
        DUE.is("lay: a sheet on a hole", 1, x.lay(0, 2, 2));
        DUE.is("lay: a number on a sheet", 2, x.lay(0, 3, Integer.MIN_VALUE));
        DUE.is("lay: nothing on a number", 3, x.lay(0, 0, -99));
        DUE.is("lay: nothing on nothing", 0, x.lay(0, 0, 99));
        DUE.is("lay: each slot by itself", 0, x.lay(4, 3, 5));
        DUE.is("lay: each slot by itself", DigFill.NOTHING, x.rest(3, 1));
        int[][] bad = {{5, 3, 0}, {-1, 3, 0}, {0, 4, 0}, {0, -1, 0}, {0, 1, 1}, {0, 1, -1}, {0, 2, 4}, {0, 2, -1}, {5, 2, 0},
            {Integer.MIN_VALUE, 0, 0}, {0, Integer.MAX_VALUE, 0}, {0, 1, Integer.MAX_VALUE}, {0, 2, Integer.MIN_VALUE}};
        for (int[] b : bad) {
            DUE.is("lay: " + java.util.Arrays.toString(b), DigFill.BAD, x.lay(b[0], b[1], b[2]));
        }
        DUE.is("lay: a missing sheet", DigFill.NOTHING, x.lay(4, 2, 0));
        DUE.is("lay: refused ones change nothing", 2, x.rest(4, 3));
        DUE.is("lay: refused ones change nothing", DigFill.NOTHING, x.rest(0, 3));
        DUE.is("lay: it held the number", 3, x.lay(4, 3, 6));
    }

    private static void promise36LayKeeps() {
        DigFill x = new DigFill();
        x.hole(1, 1, 10, 6);
        row(x, 0, 0, 1, 2);
        x.lay(0, 1, 0);
        x.lay(1, 2, 0);
        x.turns(0, 5);
        x.set(0, 2, 77);
        x.mark(0, 0, 50);
        DUE.is("lay: the hole as it was", 16, x.ask(0, 1));
        DUE.is("lay: the row as it was", 1, x.item(1, 0));
        x.sheet(0, -1, 0);
        DUE.is("lay: the row as it was", 2, x.item(1, 1));
        x.keep();
        x.back();
        DUE.is("lay: an image is no matter", 16, x.ask(0, 1));
        x.lay(0, 1, 0);
        DUE.is("lay: the hole as it is now", 1, x.ask(0, 5));
    }

    private static void promise37Ask() {
        DigFill x = HolesTest.oneOfEach(12, 40, 6);
        int[] worths = {40, 46, 80, 92, 71, 12};
        int[] sets = {0b000001, 0b000011, 0b000101, 0b001011, 0b010101, 0b100001};
        for (int hole = 0; hole <= 5; hole++) {
            x.lay(2, 1, hole);
            for (int kind = 0; kind <= 5; kind++) {
                int want = (sets[hole] >> kind & 1) != 0 ? worths[hole] : DigFill.KIND;
                DUE.is("ask: " + hole + " as " + kind, want, x.ask(2, kind));
            }
        }
        for (int v : WRONG) {
            DUE.is("ask: slot", DigFill.BAD, x.ask(v, 0));
            DUE.is("ask: kind", DigFill.BAD, x.ask(2, v));
            DUE.is("ask: BAD comes ahead of NOTHING", DigFill.BAD, x.ask(3, v));
        }
        DUE.is("ask: slot", DigFill.BAD, x.ask(5, 0));
        DUE.is("ask: kind", DigFill.BAD, x.ask(2, 6));
        DUE.is("ask: nothing", DigFill.NOTHING, x.ask(3, 0));
        x.lay(3, 3, 0);
        DUE.is("ask: a number", DigFill.KIND, x.ask(3, 0));
        x.sheet(0, 0, 1);
        x.lay(3, 2, 0);
        DUE.is("ask: a sheet", DigFill.KIND, x.ask(3, 0));
    }

    private static void promise38Item() {
        DigFill x = new DigFill();
        row(x, 0, 1, -5, NO_NUMBER, 99999);
        x.lay(4, 2, 0);
        DUE.is("item: the first", -5, x.item(4, 0));
        DUE.is("item: no number", DigFill.KIND, x.item(4, 1));
        DUE.is("item: the last", 99999, x.item(4, 2));
        DUE.is("item: beyond", DigFill.INDEX, x.item(4, 3));
        for (int v : WRONG) {
            DUE.is("item: place", DigFill.INDEX, x.item(4, v));
            DUE.is("item: slot", DigFill.BAD, x.item(v, 0));
            DUE.is("item: NOTHING comes ahead of INDEX", DigFill.NOTHING, x.item(3, v));
        }
        DUE.is("item: slot", DigFill.BAD, x.item(5, 0));
        x.lay(3, 3, 7);
        DUE.is("item: a number", DigFill.KIND, x.item(3, 99));
        x.hole(0, 1, 1, 1);
        x.lay(3, 1, 0);
        DUE.is("item: a hole", DigFill.KIND, x.item(3, 0));
    }

    private static void promise39Rest() {
        DigFill x = new DigFill();
        int[][] due = {{11, 4, 3}, {-11, 4, -3}, {11, -4, 3}, {-11, -4, -3}, {12, 4, 0}, {3, 7, 3}, {0, 5, 0},
            {Integer.MIN_VALUE, -1, 0}, {Integer.MIN_VALUE, Integer.MAX_VALUE, -1}, {5, Integer.MIN_VALUE, 5}, {5, 0, DigFill.NO}};
        for (int[] d : due) {
            x.lay(1, 3, d[0]);
            DUE.is("rest of " + d[0] + " by " + d[1], d[2], x.rest(1, d[1]));
        }
        for (int v : new int[] {-1, 5, Integer.MIN_VALUE, Integer.MAX_VALUE}) {
            DUE.is("rest: slot", DigFill.BAD, x.rest(v, 0));
        }
        DUE.is("rest: NOTHING comes ahead of NO", DigFill.NOTHING, x.rest(2, 0));
        x.hole(0, 1, 1, 1);
        x.lay(2, 1, 0);
        DUE.is("rest: a hole", DigFill.KIND, x.rest(2, 0));
        x.sheet(0, 0, 1);
        x.lay(2, 2, 0);
        DUE.is("rest: a sheet", DigFill.KIND, x.rest(2, 1));
    }
}
