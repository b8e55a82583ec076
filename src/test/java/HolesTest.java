/** Promises 1 to 10: a new object, hole, told, as, turns, set, settles, rule, deal, seed. */
final class HolesTest {
    private static final int HOLE = 0, GRAVE = 1, POND = 2, CRYPT = 3, DYKE = 4, SHAFT = 5;
    private static final int[] WRONG = {-1, Integer.MIN_VALUE, Integer.MAX_VALUE};
    private static final Due DUE = new Due("HolesTest");

    public static void main(String[] args) {
        promise1New();
        promise2Hole();
        promise3Told();
        promise4As();
        promise5Turns();
        promise6Set();
        promise7Settles();
        promise7SettlesByText();
        promise8Rule();
        promise9Deal();
        promise10Seed();
        DUE.end();
    }

    /** A hole of each kind, numbered as its kind, all alike. */
    static DigFill oneOfEach(int place, int depth, int owner) {
        DigFill x = new DigFill();
        for (int kind = 0; kind <= 5; kind++) {
            x.hole(kind, place, depth, owner);
        }
        return x;
    }

    private static void promise1New() {
        DigFill x = new DigFill();
        int[] counts = {0, 0, 0, 0, 0, 0, 0, 10, 120, 0, 0, 0, 1};
        for (int what = 0; what < counts.length; what++) {
            DUE.is("new: count(" + what + ")", counts[what], x.count(what));
        }
        DUE.is("new: told(0, 0)", DigFill.BAD, x.told(0, 0));
        for (int key = 0; key < 3; key++) {
            DUE.is("new: why", DigFill.NONE, x.why(key));
        }
        for (int sheet = 0; sheet < 4; sheet++) {
            DUE.is("new: reads", DigFill.NOTHING, x.reads(sheet));
        }
        for (int slot = 0; slot < 5; slot++) {
            DUE.is("new: rest", DigFill.NOTHING, x.rest(slot, 1));
        }
        DUE.is("new: back", DigFill.NO, x.back());
        x.hole(0, 1, 1, 1);
        DUE.is("objects stand apart", 0, new DigFill().count(0));
    }

    private static void promise2Hole() {
        DigFill x = new DigFill();
        DUE.is("hole: the least", 0, x.hole(0, 0, 0, 0));
        DUE.is("hole: the greatest", 1, x.hole(5, 29, 99, 7));
        int[][] above = {{6, 0, 0, 0}, {0, 30, 0, 0}, {0, 0, 100, 0}, {0, 0, 0, 8}};
        for (int[] a : above) {
            DUE.is("hole: beyond", DigFill.BAD, x.hole(a[0], a[1], a[2], a[3]));
        }
        for (int v : WRONG) {
            DUE.is("hole: kind", DigFill.BAD, x.hole(v, 0, 0, 0));
            DUE.is("hole: place", DigFill.BAD, x.hole(0, v, 0, 0));
            DUE.is("hole: depth", DigFill.BAD, x.hole(0, 0, v, 0));
            DUE.is("hole: owner", DigFill.BAD, x.hole(0, 0, 0, v));
        }
        DUE.is("hole: refused ones do not come", 2, x.count(0));
        for (int h = 2; h < 10; h++) {
            DUE.is("hole: its number", h, x.hole(h % 6, h, 0, 0));
        }
        DUE.is("hole: the eleventh, though some are filled", DigFill.FULL, x.hole(0, 1, 1, 1));
        DUE.is("hole: BAD comes ahead of FULL", DigFill.BAD, x.hole(6, 1, 1, 1));
        DUE.is("hole: no more come", 10, x.count(0));
    }

    private static void promise3Told() {
        DigFill x = new DigFill();
        x.hole(CRYPT, 17, 34, 6);
        x.set(0, 4, 5);
        int[] parts = {3, 17, 34, 6, 5, 80};
        for (int what = 0; what < parts.length; what++) {
            DUE.is("told: part " + what, parts[what], x.told(0, what));
        }
        DUE.is("told: what", DigFill.BAD, x.told(0, 6));
        DUE.is("told: what", DigFill.BAD, x.told(0, -1));
        DUE.is("told: hole", DigFill.BAD, x.told(1, 0));
        for (int v : WRONG) {
            DUE.is("told: hole", DigFill.BAD, x.told(v, 0));
            DUE.is("told: what", DigFill.BAD, x.told(0, v));
        }
        int[] worths = {40, 46, 80, 92, 71, 12};
        DigFill y = oneOfEach(12, 40, 6);
        for (int kind = 0; kind <= 5; kind++) {
            DUE.is("told: worth of kind " + kind, worths[kind], y.told(kind, 5));
            DUE.is("told: age at first", 0, y.told(kind, 4));
        }
    }

    private static void promise4As() {
        DigFill x = oneOfEach(3, 20, 1);
        int[] sets = {0b000001, 0b000011, 0b000101, 0b001011, 0b010101, 0b100001};
        for (int hole = 0; hole <= 5; hole++) {
            for (int kind = 0; kind <= 5; kind++) {
                int want = (sets[hole] >> kind & 1) != 0 ? 20 : DigFill.KIND;
                DUE.is("as: " + hole + " as " + kind, want, x.as(hole, kind));
            }
        }
        DUE.is("as: no such hole", DigFill.BAD, x.as(6, 0));
        DUE.is("as: no such kind", DigFill.BAD, x.as(0, 6));
        for (int v : WRONG) {
            DUE.is("as: hole", DigFill.BAD, x.as(v, 0));
            DUE.is("as: kind", DigFill.BAD, x.as(0, v));
        }
        x.set(4, 2, 0);
        DUE.is("as: a filled one", 0, x.as(4, POND));
    }

    private static void promise5Turns() {
        DigFill x = new DigFill();
        x.hole(GRAVE, 9, 30, 4);
        x.set(0, 4, 7);
        DUE.is("turns: was a grave", GRAVE, x.turns(0, DYKE));
        DUE.is("turns: was a dyke", DYKE, x.turns(0, SHAFT));
        DUE.is("turns: to the same", SHAFT, x.turns(0, SHAFT));
        DUE.is("turns: a shaft now", 9, x.told(0, 5));
        int[] parts = {SHAFT, 9, 30, 4, 7};
        for (int what = 0; what < parts.length; what++) {
            DUE.is("turns: the rest stays", parts[what], x.told(0, what));
        }
        DUE.is("turns: hole", DigFill.BAD, x.turns(1, HOLE));
        DUE.is("turns: kind", DigFill.BAD, x.turns(0, 6));
        for (int v : WRONG) {
            DUE.is("turns: hole", DigFill.BAD, x.turns(v, HOLE));
            DUE.is("turns: kind", DigFill.BAD, x.turns(0, v));
        }
        DUE.is("turns: refused ones change nothing", SHAFT, x.told(0, 0));
    }

    private static void promise6Set() {
        int[] most = {5, 29, 99, 7, 999};
        int[] were = {HOLE, 9, 30, 4, 0};
        for (int what = 1; what <= 4; what++) {
            DigFill x = new DigFill();
            x.hole(HOLE, 9, 30, 4);
            DUE.is("set: what it was", were[what], x.set(0, what, most[what]));
            DUE.is("set: the most", most[what], x.told(0, what));
            DUE.is("set: above", DigFill.BAD, x.set(0, what, most[what] + 1));
            DUE.is("set: below", DigFill.BAD, x.set(0, what, -1));
            DUE.is("set: far below", DigFill.BAD, x.set(0, what, Integer.MIN_VALUE));
            DUE.is("set: what it was", most[what], x.set(0, what, 0));
            DUE.is("set: the least", 0, x.told(0, what));
            for (int other = 0; other <= 4; other++) {
                DUE.is("set: the others stay", other == what ? 0 : were[other], x.told(0, other));
            }
            DUE.is("set: hole", DigFill.BAD, x.set(1, what, 1));
            DUE.is("set: hole", DigFill.BAD, x.set(-1, what, 1));
        }
        DigFill x = new DigFill();
        x.hole(HOLE, 9, 30, 4);
        DUE.is("set: a kind", DigFill.BAD, x.set(0, 0, 1));
        DUE.is("set: a worth", DigFill.BAD, x.set(0, 5, 1));
        for (int v : WRONG) {
            DUE.is("set: what", DigFill.BAD, x.set(0, v, 0));
        }
    }

    private static void promise7Settles() {
        DigFill x = oneOfEach(3, 20, 1);
        for (int k = 0; k <= 9; k++) {
            int h = k < 5 ? 0 : 1;
            DUE.is("settles: hole", h, x.settles(HOLE, k));
            DUE.is("settles: grave", h + 1, x.settles(GRAVE, k));
            DUE.is("settles: pond", 2 * h, x.settles(POND, k));
            DUE.is("settles: crypt", 0, x.settles(CRYPT, k));
            DUE.is("settles: dyke", h, x.settles(DYKE, k));
            DUE.is("settles: shaft", k == 9 ? 1 : 0, x.settles(SHAFT, k));
        }
        DUE.is("settles: x", DigFill.BAD, x.settles(0, 10));
        DUE.is("settles: hole", DigFill.BAD, x.settles(6, 0));
        for (int v : WRONG) {
            DUE.is("settles: x", DigFill.BAD, x.settles(0, v));
            DUE.is("settles: hole", DigFill.BAD, x.settles(v, 0));
        }
        DUE.is("settles: nothing changes", 120, x.count(4));
        x.set(0, 2, 0);
        DUE.is("settles: of a filled one too", 1, x.settles(0, 9));
    }

    private static void promise7SettlesByText() {
        DigFill x = oneOfEach(3, 20, 1);
        int[][] due = {
            // what the text gives for a hole, then what each kind settles by 4
            {3, 3, 4, 6, 0, 3, 0}, {4, 4, 5, 8, 0, 4, 0}, {5, 5, 6, 9, 0, 4, 0}, {9, 9, 10, 9, 0, 4, 0}, {10, 9, 10, 9, 0, 4, 0}};
        for (int[] row : due) {
            DUE.is("settles: text", x.count(9), Due.text(x, "settle " + row[0]));
            for (int kind = 0; kind <= 5; kind++) {
                DUE.is("settles: " + row[0] + " of kind " + kind, row[kind + 1], x.settles(kind, 4));
            }
        }
        Due.text(x, "settle 0-7");
        DUE.is("settles: held at 0", 0, x.settles(HOLE, 9));
        DUE.is("settles: a grave by 1 more", 1, x.settles(GRAVE, 9));
        Due.text(x, "settle x-a+d/10");
        x.set(0, 4, 3);
        DUE.is("settles: by x, age and depth", 7 - 3 + 2, x.settles(HOLE, 7));
    }

    private static void promise8Rule() {
        DigFill x = new DigFill();
        DUE.is("rule: mile was", 10, x.rule(0, 29));
        DUE.is("rule: mile was", 29, x.rule(0, 0));
        DUE.is("rule: swell was", 120, x.rule(1, 200));
        DUE.is("rule: swell was", 200, x.rule(1, 50));
        int[][] wrong = {{0, 30}, {0, -1}, {1, 49}, {1, 201}, {2, 60}, {-1, 10}, {0, Integer.MIN_VALUE}, {1, Integer.MAX_VALUE}};
        for (int[] w : wrong) {
            DUE.is("rule(" + w[0] + ", " + w[1] + ")", DigFill.BAD, x.rule(w[0], w[1]));
        }
        DUE.is("rule: mile stays", 0, x.count(7));
        DUE.is("rule: swell stays", 50, x.count(8));
    }

    private static void promise9Deal() {
        DigFill x = new DigFill();
        for (int n : new int[] {0, -1, 11, Integer.MIN_VALUE, Integer.MAX_VALUE}) {
            DUE.is("deal(" + n + ")", DigFill.BAD, x.deal(n));
        }
        DUE.is("deal: refused ones draw nothing", 1, x.count(12));
        DUE.is("deal: how many came", 7, x.deal(7));
        int z = 1;
        int[] kinds = {6, 30, 60, 8};
        int[] whats = {0, 1, 2, 3};
        for (int h = 0; h < 7; h++) {
            for (int part = 0; part < 4; part++) {
                z = z * 1103515245 + 12345;
                int want = (z >>> 8) % kinds[part] + (part == 2 ? 1 : 0);
                DUE.is("deal: hole " + h, want, x.told(h, whats[part]));
            }
            DUE.is("deal: age", 0, x.told(h, 4));
        }
        DUE.is("deal: z behind it", z, x.count(12));
        DUE.is("deal: as many as there is room for", 3, x.deal(10));
        for (int draws = 0; draws < 12; draws++) {
            z = z * 1103515245 + 12345;
        }
        DUE.is("deal: no draws for others", z, x.count(12));
        DUE.is("deal: no room", 0, x.deal(1));
        DUE.is("deal: no draws without room", z, x.count(12));
        DUE.is("deal: ten", 10, new DigFill().deal(10));
    }

    private static void promise10Seed() {
        DigFill x = new DigFill();
        DUE.is("seed: 1 at first", 1, x.seed(Integer.MIN_VALUE));
        DUE.is("seed: what it was", Integer.MIN_VALUE, x.seed(-7));
        DUE.is("seed: told", -7, x.count(12));
        x.deal(1);
        int z = -7 * 1103515245 + 12345;
        DUE.is("seed: the draws go on from it", (z >>> 8) % 6, x.told(0, 0));
    }
}
