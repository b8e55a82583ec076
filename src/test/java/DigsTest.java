/** Promises 11 to 17: takes, dig, want, forget, dealing, adds, frees. */
final class DigsTest {
    private static final int HOLE = 0, GRAVE = 1, POND = 2, CRYPT = 3, DYKE = 4, SHAFT = 5;
    private static final int[] WRONG = {-1, Integer.MIN_VALUE, Integer.MAX_VALUE};
    private static final Due DUE = new Due("DigsTest");

    public static void main(String[] args) {
        promise11Takes();
        promise11TakesByLaw();
        promise12Dig();
        promise12DigWhenFull();
        promise13Want();
        promise14Forget();
        promise15Dealing();
        promise15DealingPrefers();
        promise16Adds();
        promise17Frees();
        DUE.end();
    }

    private static void promise11Takes() {
        DigFill x = HolesTest.oneOfEach(10, 24, 1);
        x.set(GRAVE, 4, 3);
        x.set(CRYPT, 4, 3);
        DUE.is("takes: e 24, each kind", 0b111111, x.takes(10, 20));
        DUE.is("takes: e 22, not the crypt", 0b110111, x.takes(10, 19));
        DUE.is("takes: e 25, none", 0, x.takes(10, 21));
        DUE.is("takes: e 21, not the pond, the dyke at its place", 0b110011, x.takes(10, 18));
        DUE.is("takes: e 21 from afar, no dyke", 0b100011, x.takes(11, 18));
        DUE.is("takes: e 24, just a mile away", 0b111111, x.takes(20, 20));
        DUE.is("takes: e 24, too far", 0b100000, x.takes(21, 20));
        x.set(GRAVE, 4, 2);
        x.set(CRYPT, 4, 2);
        DUE.is("takes: too young", 0b110101, x.takes(10, 20));
        x.rule(0, 0);
        DUE.is("takes: mile 0 at the place", 0b110101, x.takes(10, 20));
        DUE.is("takes: mile 0 beside it", 0b100000, x.takes(9, 20));
        x.rule(1, 50);
        DUE.is("takes: e is cut", 0b110101, x.takes(10, 49));
        DUE.is("takes: the greatest dig", 0, x.takes(10, 99));
        DigFill y = HolesTest.oneOfEach(0, 0, 0);
        DUE.is("takes: filled ones", 0, y.takes(0, 1));
        y.rule(1, 50);
        DUE.is("takes: filled ones take no earth at all", 0b110101, y.takes(0, 1));
        DUE.is("takes: of no holes", 0, new DigFill().takes(29, 99));
        int[][] wrong = {{30, 1}, {-1, 1}, {0, 0}, {0, 100}, {0, -1}};
        for (int[] w : wrong) {
            DUE.is("takes(" + w[0] + ", " + w[1] + ")", DigFill.BAD, x.takes(w[0], w[1]));
        }
        for (int v : WRONG) {
            DUE.is("takes: place", DigFill.BAD, x.takes(v, 1));
            DUE.is("takes: s", DigFill.BAD, x.takes(1, v));
        }
        DigFill far = new DigFill();
        far.hole(HOLE, 29, 99, 0);
        DUE.is("takes: 29 places are more than 10 miles", 0, far.takes(0, 1));
        far.rule(0, 29);
        DUE.is("takes: 29 miles are enough", 1, far.takes(0, 1));
    }

    private static void promise11TakesByLaw() {
        DigFill x = HolesTest.oneOfEach(10, 24, 5);
        Due.text(x, "law d - 2*o - 9"); // 24 - 10 - 9 = 5
        x.set(GRAVE, 4, 4);
        x.set(CRYPT, 4, 5);
        DUE.is("takes: by law", 0b111101, x.takes(10, 20));
        x.set(GRAVE, 4, 5);
        DUE.is("takes: by law, old enough", 0b111111, x.takes(10, 20));
        Due.text(x, "law 1 - 2");
        x.set(GRAVE, 4, 0);
        DUE.is("takes: law held at 0", 0b111111, x.takes(10, 20));
        Due.text(x, "law 9999");
        x.set(GRAVE, 4, 98);
        x.set(CRYPT, 4, 99);
        DUE.is("takes: law held at 99", 0b111101, x.takes(10, 20));
    }

    private static void promise12Dig() {
        DigFill x = new DigFill();
        x.hole(HOLE, 5, 40, 1);
        DUE.is("dig: the new hole", 1, x.dig(6, 10, 0, 7));
        DUE.is("dig: so much less", 28, x.told(0, 2));
        int[] parts = {HOLE, 6, 10, 7, 0, 10};
        for (int what = 0; what < parts.length; what++) {
            DUE.is("dig: its part " + what, parts[what], x.told(1, what));
        }
        DUE.is("dig: lifted", 10, x.count(5));
        DUE.is("dig: nothing is lost", 0, x.count(6));
        DUE.is("dig: too much", DigFill.NO, x.dig(6, 25, 0, 7));
        DUE.is("dig: too far", DigFill.NO, x.dig(16, 1, 0, 7));
        DUE.is("dig: all that it holds", 2, x.dig(15, 24, 0, 0));
        DUE.is("dig: 28 less 28", 0, x.told(0, 2));
        DUE.is("dig: lifted", 34, x.count(5));
        DUE.is("dig: a filled one takes none", DigFill.NO, x.dig(5, 2, 0, 0));
        int[][] wrong = {{30, 1, 0, 0}, {-1, 1, 0, 0}, {5, 0, 0, 0}, {5, 100, 0, 0}, {5, 1, 3, 0}, {5, 1, -1, 0}, {5, 1, 0, 8},
            {5, 1, 0, -1}, {5, 99, 0, 8}};
        for (int[] w : wrong) {
            DUE.is("dig: " + java.util.Arrays.toString(w), DigFill.BAD, x.dig(w[0], w[1], w[2], w[3]));
        }
        DUE.is("dig: refused ones change nothing", 34, x.count(5));
        DUE.is("dig: refused ones change nothing", 3, x.count(0));
        x.set(1, 2, 0);
        DUE.is("dig: with room left a filled one stays", 3, x.dig(15, 1, 2, 0));
    }

    private static DigFill tenHoles() {
        DigFill x = new DigFill();
        for (int h = 0; h < 10; h++) {
            x.hole(SHAFT, h, 12, h % 8);
        }
        x.set(7, 4, 44);
        return x;
    }

    private static void promise12DigWhenFull() {
        DigFill x = tenHoles();
        DUE.is("dig: ten, none filled", DigFill.FULL, x.dig(20, 9, 7, 3));
        DUE.is("dig: nothing changes", 120, x.count(4));
        DUE.is("dig: nothing is lifted", 0, x.count(5));
        DUE.is("dig: NO comes ahead of FULL", DigFill.NO, x.dig(20, 11, 7, 3));
        DUE.is("dig: BAD comes ahead of NO", DigFill.BAD, x.dig(20, 11, 7, 8));
        DUE.is("dig: the one filled by it becomes the new one", 7, x.dig(20, 10, 7, 3));
        int[] parts = {HOLE, 20, 10, 3, 0};
        for (int what = 0; what < parts.length; what++) {
            DUE.is("dig: its part " + what, parts[what], x.told(7, what));
        }
        DUE.is("dig: lifted", 10, x.count(5));
        x.set(8, 2, 0);
        x.set(4, 2, 0);
        DUE.is("dig: the least that is filled", 4, x.dig(1, 10, 9, 2));
        DUE.is("dig: the hole it fills", 0, x.told(9, 2));
        DUE.is("dig: the other filled one stays", 0, x.told(8, 2));
        DUE.is("dig: filled by it, less than one that was", 2, x.dig(1, 10, 2, 2));
        DUE.is("dig: still ten", 10, x.count(0));
        DigFill y = tenHoles();
        y.set(0, 2, 0);
        y.rule(1, 50);
        DUE.is("dig: of no earth, into a filled one", 0, y.dig(20, 1, 0, 6));
        DUE.is("dig: which is a new one then", 1, y.told(0, 2));
        DUE.is("dig: of one spade", 1, y.count(5));
    }

    private static void promise13Want() {
        DigFill x = new DigFill();
        int[][] wrong = {{30, 1}, {-1, 1}, {0, 0}, {0, 100}, {Integer.MIN_VALUE, 1}, {0, Integer.MAX_VALUE}};
        for (int[] w : wrong) {
            DUE.is("want(" + w[0] + ", " + w[1] + ")", DigFill.BAD, x.want(w[0], w[1]));
        }
        DUE.is("want: none came", 0, x.count(2));
        int[][] right = {{0, 1}, {29, 99}, {0, 99}, {29, 1}, {15, 50}, {15, 50}};
        for (int w = 0; w < right.length; w++) {
            DUE.is("want: its number", w, x.want(right[w][0], right[w][1]));
        }
        DUE.is("want: the seventh", DigFill.FULL, x.want(1, 1));
        DUE.is("want: BAD comes ahead of FULL", DigFill.BAD, x.want(30, 1));
        DUE.is("want: six", 6, x.count(2));
        x.hole(HOLE, 15, 60, 0);
        x.hole(HOLE, 15, 59, 0);
        DUE.is("want: its place and spades count", 1, x.dealing(0));
        DUE.is("want: of 60 of earth", 0, x.dealing(6));
    }

    private static void promise14Forget() {
        DigFill x = new DigFill();
        DUE.is("forget: none", 0, x.forget());
        x.hole(HOLE, 5, 90, 0);
        x.want(5, 10);
        x.want(5, 11);
        DUE.is("forget: two", 2, x.forget());
        DUE.is("forget: no more", 0, x.count(2));
        DUE.is("forget: none is met", 0, x.dealing(0));
        DUE.is("forget: they begin anew", 0, x.want(5, 99));
        DUE.is("forget: the old one is gone", 0, x.dealing(0));
        DUE.is("forget: one", 1, x.forget());
        DUE.is("forget: the holes stay", 1, x.count(0));
    }

    private static void promise15Dealing() {
        DigFill x = new DigFill();
        DUE.is("dealing: none", 0, x.dealing(0));
        DUE.is("dealing: none", 0, x.dealing(1));
        DUE.is("dealing: no want", DigFill.BAD, x.dealing(2));
        x.want(5, 10);
        DUE.is("dealing: no hole", DigFill.NONE, x.dealing(2));
        x.hole(HOLE, 8, 12, 0);
        DUE.is("dealing: met", 1, x.dealing(0));
        DUE.is("dealing: miles", 3, x.dealing(1));
        DUE.is("dealing: its hole", 0, x.dealing(2));
        x.want(9, 10);
        DUE.is("dealing: one hole for two", 1, x.dealing(0));
        DUE.is("dealing: the nearer one has it", DigFill.NONE, x.dealing(2));
        DUE.is("dealing: the nearer one has it", 0, x.dealing(3));
        DUE.is("dealing: a mile", 1, x.dealing(1));
        DUE.is("dealing: what", DigFill.BAD, x.dealing(4));
        for (int v : WRONG) {
            DUE.is("dealing: what", DigFill.BAD, x.dealing(v));
        }
        x.rule(1, 130);
        DUE.is("dealing: by what swells now", 0, x.dealing(0));
        DUE.is("dealing: nothing changes", 12, x.count(4));
    }

    private static void promise15DealingPrefers() {
        // more wants come ahead of fewer miles: want 0 leaves the hole at its place to want 1
        DigFill x = new DigFill();
        x.hole(HOLE, 10, 50, 0);
        x.hole(SHAFT, 0, 6, 0);
        x.want(10, 5);
        x.want(10, 20);
        DUE.is("dealing: most", 2, x.dealing(0));
        DUE.is("dealing: miles", 10, x.dealing(1));
        DUE.is("dealing: want 0 goes far", 1, x.dealing(2));
        DUE.is("dealing: want 1 stays", 0, x.dealing(3));
        // fewest miles together, not the nearest hole first
        DigFill y = new DigFill();
        y.hole(HOLE, 10, 50, 0);
        y.hole(HOLE, 14, 50, 0);
        y.want(11, 1);
        y.want(7, 1);
        DUE.is("dealing: fewest miles together", 6, y.dealing(1));
        DUE.is("dealing: want 0 goes on", 1, y.dealing(2));
        DUE.is("dealing: want 1 comes in", 0, y.dealing(3));
        // of several the least hole of want 0, then of want 1
        DigFill v = new DigFill();
        for (int h = 0; h < 10; h++) {
            v.hole(HOLE, 3, 50, 0);
        }
        for (int w = 0; w < 6; w++) {
            v.want(3, 1);
        }
        for (int w = 0; w < 6; w++) {
            DUE.is("dealing: the least holes", w, v.dealing(2 + w));
        }
        // to have none comes behind all
        DigFill u = new DigFill();
        u.hole(HOLE, 3, 50, 0);
        u.want(3, 60);
        u.want(3, 1);
        u.want(3, 1);
        DUE.is("dealing: want 0 can't", DigFill.NONE, u.dealing(2));
        DUE.is("dealing: want 1 has it", 0, u.dealing(3));
        DUE.is("dealing: want 2 has none", DigFill.NONE, u.dealing(4));
        // none of six
        DigFill s = new DigFill();
        for (int w = 0; w < 6; w++) {
            s.want(3, 1);
        }
        DUE.is("dealing: none of six is met", 0, s.dealing(0));
        DUE.is("dealing: no miles", 0, s.dealing(1));
        for (int w = 0; w < 6; w++) {
            DUE.is("dealing: no hole", DigFill.NONE, s.dealing(2 + w));
        }
        // all at the greatest distance
        DigFill t = new DigFill();
        t.rule(0, 29);
        for (int w = 0; w < 6; w++) {
            t.hole(HOLE, 29, 50, 0);
            t.want(0, 1);
        }
        DUE.is("dealing: all six", 6, t.dealing(0));
        DUE.is("dealing: 174 miles", 174, t.dealing(1));
        DUE.is("dealing: the last one", 5, t.dealing(7));
        // the last of ten holes
        DigFill r = tenHoles();
        r.want(9, 10);
        DUE.is("dealing: the hole of number 9", 9, r.dealing(2));
        DUE.is("dealing: no mile", 0, r.dealing(1));
    }

    private static void promise16Adds() {
        DigFill x = new DigFill();
        x.hole(HOLE, 5, 50, 0);
        x.hole(HOLE, 6, 50, 0);
        x.hole(HOLE, 25, 50, 0);
        DUE.is("adds: without wants", 0, x.adds(0));
        x.want(5, 1);
        DUE.is("adds: another one will do", 0, x.adds(0));
        x.want(5, 2);
        DUE.is("adds: both are needed", 1, x.adds(0));
        DUE.is("adds: both are needed", 1, x.adds(1));
        DUE.is("adds: it is too far", 0, x.adds(2));
        x.want(5, 3);
        DUE.is("adds: a third can't be met", 1, x.adds(0));
        DUE.is("adds: hole", DigFill.BAD, x.adds(3));
        for (int v : WRONG) {
            DUE.is("adds: hole", DigFill.BAD, x.adds(v));
        }
        DUE.is("adds: nothing changes", 3, x.count(0));
    }

    private static void promise17Frees() {
        DigFill x = new DigFill();
        DUE.is("frees: no wants", DigFill.NONE, x.frees(5));
        x.want(5, 10); // e 12
        x.want(8, 20); // e 24
        DUE.is("frees: the smaller one", 12, x.frees(5));
        DUE.is("frees: as far as a mile", 12, x.frees(15));
        DUE.is("frees: out of its mile", 24, x.frees(16));
        DUE.is("frees: too far for all", DigFill.NONE, x.frees(19));
        x.hole(HOLE, 5, 13, 0);
        DUE.is("frees: the small one is met", 24, x.frees(5));
        x.hole(HOLE, 5, 30, 0);
        DUE.is("frees: all are met", DigFill.NONE, x.frees(5));
        x.want(5, 11); // e 13
        DUE.is("frees: takes the small one, whose hole goes on", 12, x.frees(5));
        x.rule(1, 200);
        DUE.is("frees: e 20, 22, 40", 20, x.frees(5));
        for (int v : new int[] {-1, 30, Integer.MIN_VALUE, Integer.MAX_VALUE}) {
            DUE.is("frees(" + v + ")", DigFill.BAD, x.frees(v));
        }
        DUE.is("frees: nothing changes", 2, x.count(0));
        DigFill y = new DigFill();
        y.want(5, 83);
        DUE.is("frees: 99 spades", 99, y.frees(5));
        y.forget();
        y.want(5, 84); // e 100
        DUE.is("frees: more than 99", DigFill.NONE, y.frees(5));
        y.forget();
        y.rule(1, 50);
        y.want(5, 1); // e 0
        DUE.is("frees: one spade at least", 1, y.frees(5));
        DigFill full = tenHoles();
        full.want(3, 20);
        DUE.is("frees: ten holes are no bound", 24, full.frees(3));
    }
}
