/** Boundary cases of part 1, HOLES, and of promises 1 to 10. */
final class HoleEdges {
    private static final int BAD = Edges.BAD, FULL = Edges.FULL, KIND = Edges.KIND;

    // ---- how many, and from where to where

    static void tenHolesAtMost(Edges e) {
        e.says("1 HOLES, 10 at most, numbered from 0");
        DigFill x = new DigFill();
        for (int h = 0; h < 10; h++) {
            e.due(BAD, x, "told " + h + " 0");
            e.due(h, x, "hole 0 1 1 1");
        }
        e.due(FULL, x, "hole 0 1 1 1");
        e.due(10, x, "count 0");
        e.due(0, x, "told 9 0");
        e.each(BAD, x, "told 10 0", "told -1 0");
    }

    static void placesOfHoles(Edges e) {
        e.says("PLACE 0 .. 29");
        e.bounds(0, 29, "hole 0 ? 5 5");
        e.bounds(0, 29, "set 0 1 ?", "hole 0 5 5 5");
    }

    static void depthsOfHoles(Edges e) {
        e.says("DEPTH 0 .. 99 (spades of earth");
        e.bounds(0, 99, "hole 0 5 ? 5");
        e.bounds(0, 99, "set 0 2 ?", "hole 0 5 5 5");
    }

    static void filledAtDepthNone(Edges e) {
        e.says("a HOLE of DEPTH 0 is FILLED");
        DigFill x = Edges.made("hole 0 5 1 5");
        e.due(0, x, "count 1");
        e.due(1, x, "set 0 2 0");
        e.due(1, x, "count 1");
        for (int kind = 1; kind <= 5; kind++) {
            e.due(kind, x, "hole " + kind + " 5 0 5");
            e.due(kind + 1, x, "count 1");
        }
    }

    static void ownersOfHoles(Edges e) {
        e.says("OWNER 0 .. 7");
        e.bounds(0, 7, "hole 0 5 5 ?");
        e.bounds(0, 7, "set 0 3 ?", "hole 0 5 5 5");
    }

    static void agesOfHoles(Edges e) {
        e.says("AGE 0 .. 999 (0 at first)");
        e.bounds(0, 999, "set 0 4 ?", "hole 0 5 5 5");
        DigFill x = Edges.made("hole 3 5 5 5", "deal 1");
        e.each(0, x, "told 0 4", "told 1 4");
    }

    static void kindsOfHoles(Edges e) {
        e.says("of KINDS: 0 HOLE; 1 GRAVE, 2 POND, 5 SHAFT, under HOLE; 3 CRYPT, under GRAVE; 4 DYKE, under POND (all are HOLES).");
        e.bounds(0, 5, "hole ? 5 5 5");
        DigFill x = HolesTest.oneOfEach(5, 7, 5);
        int[] over = {0b000001, 0b000011, 0b000101, 0b001011, 0b010101, 0b100001};
        for (int h = 0; h <= 5; h++) {
            for (int kind = 0; kind <= 5; kind++) {
                e.due((over[h] >> kind & 1) == 1 ? 7 : KIND, x, "as " + h + " " + kind);
            }
        }
    }

    static void milesOfTheLaw(Edges e) {
        e.says("MILE is 0 .. 29 (10 at first)");
        e.bounds(0, 29, "rule 0 ?");
        e.due(10, new DigFill(), "count 7");
        e.due(10, new DigFill(), "rule 0 3");
    }

    static void swellOfTheEarth(Edges e) {
        e.says("SWELL 50 .. 200 (120)");
        e.bounds(50, 200, "rule 1 ?");
        e.due(120, new DigFill(), "count 8");
        e.due(120, new DigFill(), "rule 1 60");
    }

    static void theDayEndsAt9999(Edges e) {
        e.says("THE DAY is 0 at first, 9999 at most.");
        e.due(0, new DigFill(), "count 3");
        DigFill x = Edges.onDay(9998);
        e.due(9998, x, "count 3");
        x.days(1);
        e.due(9999, x, "count 3");
        x.days(1);
        x.days(100);
        e.due(9999, x, "count 3");
    }

    static void nothingLiftedOrLost(Edges e) {
        e.says("LIFTED, LOST are 0 at first.");
        e.each(0, new DigFill(), "count 5", "count 6");
        e.each(0, Edges.made("hole 0 5 5 5", "deal 3"), "count 5", "count 6");
    }

    // ---- what a hole takes

    /** A CRYPT that is old enough takes just its DEPTH, so it tells how much EARTH a dig is. */
    private static int earth(int swell, int spades) {
        DigFill x = Edges.made("hole 3 5 0 5", "set 0 4 999", "rule 1 " + swell);
        for (int depth = 0; depth <= 99; depth++) {
            x.set(0, 2, depth);
            if (x.takes(5, spades) == 1) {
                return depth;
            }
        }
        return -1;
    }

    static void earthIsCut(Edges e) {
        e.says("EARTH of a dig of s spades: s times SWELL / 100 (cut).");
        int[][] due = {
            // SWELL, spades, EARTH (-1: more than 99)
            {50, 1, 0}, {50, 2, 1}, {50, 3, 1}, {50, 99, 49}, {99, 1, 0}, {99, 99, 98}, {100, 1, 1}, {100, 99, 99}, {101, 1, 1},
            {101, 99, 99}, {120, 1, 1}, {120, 4, 4}, {120, 5, 6}, {120, 83, 99}, {120, 84, -1}, {199, 1, 1}, {199, 50, 99},
            {200, 1, 2}, {200, 49, 98}, {200, 50, -1}, {200, 99, -1}};
        for (int[] d : due) {
            e.is("EARTH of " + d[1] + " with SWELL " + d[0], d[2], earth(d[0], d[1]));
        }
    }

    /** SWELL 100, so that spades are EARTH. */
    private static DigFill one(int kind, int depth, int age) {
        return Edges.made("rule 1 100", "hole " + kind + " 15 " + depth + " 5", "set 0 4 " + age);
    }

    private static void asHole(Edges e, int kind) {
        DigFill x = one(kind, 20, 999);
        e.each(1, x, "takes 15 20", "takes 5 20", "takes 25 20");
        e.each(0, x, "takes 4 20", "takes 26 20", "takes 15 21", "takes 15 22", "takes 15 99");
        x.rule(0, 0);
        e.due(1, x, "takes 15 20");
        e.each(0, x, "takes 14 20", "takes 16 20");
        x.rule(0, 29);
        e.each(1, x, "takes 0 20", "takes 29 20");
        e.each(0, x, "takes 0 22", "takes 29 21");
    }

    static void holeTakesUpToItsDepthWithinAMile(Edges e) {
        e.says("TAKES: whether it can be filled with e of EARTH from a PLACE: HOLE: if e is DEPTH at most, "
            + "and the PLACES are no more than MILE apart.");
        asHole(e, 0);
        DigFill x = one(0, 0, 0);
        e.due(0, x, "takes 15 1");
        x.set(0, 2, 1);
        e.due(1, x, "takes 15 1");
        x.set(0, 2, 99);
        e.due(1, x, "takes 15 99");
        x.rule(1, 102);
        e.due(0, x, "takes 15 99");
    }

    static void farthestPlaces(Edges e) {
        e.says("and the PLACES are no more than MILE apart.");
        DigFill x = Edges.made("hole 0 0 99 0", "hole 0 29 99 0", "rule 0 28");
        e.due(1, x, "takes 0 1");
        e.due(2, x, "takes 29 1");
        e.due(3, x, "takes 1 1");
        x.rule(0, 29);
        e.each(3, x, "takes 0 1", "takes 29 1");
    }

    static void graveWithoutText(Edges e) {
        e.says("(without a TEXT: 3)");
        e.due(0, one(1, 20, 0), "takes 15 20");
        e.due(0, one(1, 20, 2), "takes 15 20");
        e.due(1, one(1, 20, 3), "takes 15 20");
        e.due(1, one(1, 20, 999), "takes 15 20");
        asHole(e, 1);
    }

    static void graveByLaw(Edges e) {
        e.says("GRAVE: as HOLE, and if AGE is what law gives at least");
        int[][] due = {{0, 0, 1}, {1, 0, 0}, {1, 1, 1}, {50, 49, 0}, {50, 50, 1}, {50, 51, 1}};
        for (int[] d : due) {
            DigFill x = one(1, 20, d[1]);
            Due.text(x, "law " + d[0]);
            e.is("takes, AGE " + d[1] + ", law " + d[0], d[2], x.takes(15, 20));
            e.each(0, x, "takes 15 21", "takes 4 20");
        }
    }

    static void lawIsHeld(Edges e) {
        e.says("held within 0 .. 99 (without a TEXT: 3)");
        String[] below = {"0-1", "0-9999", "2048*1024*1024"};
        for (String sum : below) {
            DigFill x = one(1, 20, 0);
            Due.text(x, "law " + sum);
            e.is("takes, AGE 0, law " + sum, 1, x.takes(15, 20));
        }
        String[] above = {"99", "100", "9999", "2048*1024*1024-1"};
        for (String sum : above) {
            DigFill x = one(1, 20, 98);
            Due.text(x, "law " + sum);
            e.is("takes, AGE 98, law " + sum, 0, x.takes(15, 20));
            x.set(0, 4, 99);
            e.is("takes, AGE 99, law " + sum, 1, x.takes(15, 20));
        }
    }

    static void cryptTakesJustItsDepth(Edges e) {
        e.says("CRYPT: as GRAVE, and if e is just DEPTH.");
        DigFill x = one(3, 20, 3);
        e.due(1, x, "takes 15 20");
        e.each(0, x, "takes 15 19", "takes 15 21", "takes 15 1", "takes 15 99");
        asHole(e, 3);
        x.set(0, 4, 2);
        e.due(0, x, "takes 15 20");
        Due.text(x, "law 2");
        e.due(1, x, "takes 15 20");
        DigFill filled = one(3, 0, 3);
        e.due(0, filled, "takes 15 1");
        filled.rule(1, 50);
        e.due(1, filled, "takes 15 1");
        e.due(0, filled, "takes 15 2");
    }

    static void pondTakesEvenEarth(Edges e) {
        e.says("POND: as HOLE, and if e is even.");
        asHole(e, 2);
        DigFill x = one(2, 99, 0);
        e.each(0, x, "takes 15 1", "takes 15 19", "takes 15 97", "takes 15 99");
        e.each(1, x, "takes 15 2", "takes 15 20", "takes 15 98");
        x.rule(1, 50);
        e.each(1, x, "takes 15 1", "takes 15 4", "takes 15 5");
        e.each(0, x, "takes 15 2", "takes 15 3");
        x.set(0, 2, 0);
        e.due(1, x, "takes 15 1");
    }

    static void dykeAtItsPlace(Edges e) {
        e.says("DYKE: as POND, or if e is DEPTH at most and they are at one PLACE.");
        DigFill x = one(4, 21, 0);
        e.each(1, x, "takes 15 1", "takes 15 20", "takes 15 21");
        e.each(0, x, "takes 15 22", "takes 15 23", "takes 15 99");
        e.each(1, x, "takes 14 20", "takes 16 20", "takes 5 20", "takes 25 20");
        e.each(0, x, "takes 14 21", "takes 16 21", "takes 14 22", "takes 14 1", "takes 4 20", "takes 26 20");
        x.rule(0, 0);
        e.each(1, x, "takes 15 21", "takes 15 20");
        e.each(0, x, "takes 14 20", "takes 16 20");
    }

    static void shaftFromAnywhere(Edges e) {
        e.says("SHAFT: if e is DEPTH at most.");
        DigFill x = one(5, 21, 0);
        x.rule(0, 0);
        e.each(1, x, "takes 0 21", "takes 15 21", "takes 29 21", "takes 0 20", "takes 29 1");
        e.each(0, x, "takes 15 22", "takes 0 22", "takes 29 22", "takes 15 99");
        x.set(0, 2, 0);
        e.due(0, x, "takes 15 1");
    }

    // ---- by what it settles

    private static DigFill settling(int kind, String sum) {
        DigFill x = Edges.made("hole " + kind + " 5 20 5");
        if (!sum.isEmpty()) {
            Due.text(x, "settle " + sum);
        }
        return x;
    }

    static void settlesByALot(Edges e) {
        e.says("SETTLES by x (0 .. 9)");
        e.bounds(0, 9, "settles 0 ?", "hole 0 5 5 5");
        e.due(0, settling(0, "x"), "settles 0 0");
        e.due(9, settling(0, "x"), "settles 0 9");
    }

    static void holeSettlesWithoutText(Edges e) {
        e.says("HOLE: what settle gives, held within 0 .. 9 (without a TEXT: x / 5).");
        e.each(0, settling(0, ""), "settles 0 0", "settles 0 4");
        e.each(1, settling(0, ""), "settles 0 5", "settles 0 9");
    }

    static void holeSettlesHeld(Edges e) {
        e.says("what settle gives, held within 0 .. 9");
        String[] none = {"0", "0-1", "0-9999", "2048*1024*1024"};
        for (String sum : none) {
            e.is("settles by " + sum, 0, settling(0, sum).settles(0, 5));
        }
        String[] most = {"9", "10", "9999", "2048*1024*1024-1"};
        for (String sum : most) {
            e.is("settles by " + sum, 9, settling(0, sum).settles(0, 5));
        }
        e.due(1, settling(0, "1"), "settles 0 5");
        e.due(8, settling(0, "8"), "settles 0 5");
    }

    static void graveSettlesByOneMore(Edges e) {
        e.says("GRAVE: as HOLE, and 1.");
        e.due(1, settling(1, ""), "settles 0 4");
        e.due(2, settling(1, ""), "settles 0 5");
        e.due(1, settling(1, "0-1"), "settles 0 5");
        e.due(9, settling(1, "8"), "settles 0 5");
        e.due(10, settling(1, "9"), "settles 0 5");
        e.due(10, settling(1, "10"), "settles 0 5");
    }

    static void cryptSettlesNever(Edges e) {
        e.says("CRYPT: 0.");
        e.due(0, settling(3, ""), "settles 0 9");
        e.due(0, settling(3, "9"), "settles 0 9");
    }

    static void pondSettlesTwice(Edges e) {
        e.says("POND: twice as HOLE (9 at most).");
        e.due(0, settling(2, ""), "settles 0 4");
        e.due(2, settling(2, ""), "settles 0 5");
        e.due(0, settling(2, "0-1"), "settles 0 5");
        e.due(8, settling(2, "4"), "settles 0 5");
        e.due(9, settling(2, "5"), "settles 0 5");
        e.due(9, settling(2, "9"), "settles 0 5");
        e.due(9, settling(2, "2048*1024*1024-1"), "settles 0 5");
    }

    static void dykeSettlesHalfCut(Edges e) {
        e.says("DYKE: half (cut) of as POND.");
        int[] half = {0, 1, 2, 3, 4, 4, 4, 4, 4, 4};
        for (int gives = 0; gives <= 9; gives++) {
            e.is("settles, where a HOLE does by " + gives, half[gives], settling(4, Integer.toString(gives)).settles(0, 5));
        }
        e.due(0, settling(4, ""), "settles 0 4");
        e.due(1, settling(4, ""), "settles 0 5");
    }

    static void shaftSettlesByNineAlone(Edges e) {
        e.says("SHAFT: x / 9.");
        e.each(0, settling(5, ""), "settles 0 0", "settles 0 8");
        e.due(1, settling(5, ""), "settles 0 9");
        e.due(0, settling(5, "9"), "settles 0 8");
        e.due(1, settling(5, "0"), "settles 0 9");
    }

    // ---- what it is worth

    private static void worth(Edges e, int kind, int... atNoneAndMost) {
        e.due(atNoneAndMost[0], Edges.made("hole " + kind + " 0 0 0"), "told 0 5");
        e.due(atNoneAndMost[1], Edges.made("hole " + kind + " 29 99 7"), "told 0 5");
    }

    static void worthOfHole(Edges e) {
        e.says("WORTH: HOLE: DEPTH.");
        worth(e, 0, 0, 99);
    }

    static void worthOfGrave(Edges e) {
        e.says("GRAVE: as HOLE, and OWNER.");
        worth(e, 1, 0, 106);
    }

    static void worthOfCrypt(Edges e) {
        e.says("CRYPT: twice as GRAVE.");
        worth(e, 3, 0, 212);
    }

    static void worthOfPond(Edges e) {
        e.says("POND: 120 less DEPTH.");
        worth(e, 2, 120, 21);
    }

    static void worthOfDyke(Edges e) {
        e.says("DYKE: as POND, less 9.");
        worth(e, 4, 111, 12);
    }

    static void worthOfShaft(Edges e) {
        e.says("SHAFT: PLACE. (A KIND that is not named does as the one above it.)");
        worth(e, 5, 0, 29);
    }

    // ---- promises 1 to 10

    static void promise1(Edges e) {
        e.says("`DigFill()`: As told; no HOLES.");
        DigFill x = new DigFill();
        int[] counts = {0, 0, 0, 0, 0, 0, 0, 10, 120, 0, 0, 0, 1};
        for (int what = 0; what < counts.length; what++) {
            e.due(counts[what], x, "count " + what);
        }
        e.each(BAD, x, "told 0 0", "as 0 0", "turns 0 0", "set 0 1 0", "settles 0 0", "dig 0 1 0 0", "adds 0", "textTold 0 0", "dealing 2", "lay 0 1 0");
        e.each(0, x, "takes 5 1", "dealing 0", "dealing 1", "forget", "days 1", "behind 9 1", "behind 9 2", "paid", "debtor", "owes 0", "fine 0");
        e.each(Edges.NONE, x, "frees 5", "why 0", "why 1", "why 2");
        e.each(Edges.NOTHING, x, "dug 0 0", "pour 1", "reads 2", "lay 4 2 3", "ask 0 0", "item 1 0", "rest 4 1");
        e.each(Edges.NO, x, "back", "check 1");
    }

    static void promise2(Edges e) {
        e.says("`int hole(int kind, int place, int depth, int owner)`: One more HOLE: its number. BAD; FULL.");
        e.bounds(0, 5, "hole ? 0 0 0");
        e.bounds(0, 29, "hole 5 ? 99 7");
        e.bounds(0, 99, "hole 5 29 ? 7");
        e.bounds(0, 7, "hole 5 29 99 ?");
        DigFill x = Edges.made("deal 9");
        e.due(9, x, "hole 5 29 99 7");
        e.each(FULL, x, "hole 5 29 99 7", "hole 0 0 0 0");
        e.each(BAD, x, "hole 6 0 0 0", "hole 0 30 0 0", "hole 0 0 100 0", "hole 0 0 0 8");
    }

    static void promise3(Edges e) {
        e.says("`int told(int hole, int what)`: Of a HOLE: what 0 KIND, 1 PLACE, 2 DEPTH, 3 OWNER, 4 AGE, 5 WORTH. BAD.");
        e.bounds(0, 5, "told 1 ?", "deal 2");
        e.bounds(0, 1, "told ? 5", "deal 2");
        e.bounds(0, 9, "told ? 0", "deal 10");
        DigFill x = Edges.made("hole 1 29 99 7", "set 0 4 999");
        int[] parts = {1, 29, 99, 7, 999, 106};
        for (int what = 0; what <= 5; what++) {
            e.due(parts[what], x, "told 0 " + what);
        }
    }

    static void promise4(Edges e) {
        e.says("`int as(int hole, int kind)`: A HOLE as one of a KIND: DEPTH. BAD: hole, kind; KIND: it is not of that KIND, nor of one under it.");
        e.bounds(0, 1, "as ? 0", "deal 2");
        e.bounds(0, 9, "as ? 0", "deal 10");
        DigFill x = HolesTest.oneOfEach(5, 7, 5);
        e.each(BAD, x, "as 0 6", "as 0 -1", "as 0 MIN", "as 0 MAX", "as 6 0", "as 6 6", "as -1 -1");
        e.each(7, x, "as 0 0", "as 3 3", "as 3 1", "as 3 0", "as 4 2", "as 5 5", "as 5 0");
        e.each(KIND, x, "as 0 1", "as 0 5", "as 1 3", "as 3 2", "as 4 1", "as 2 4", "as 5 4", "as 1 5");
        x.set(4, 2, 0);
        e.due(0, x, "as 4 2");
    }

    static void promise5(Edges e) {
        e.says("`int turns(int hole, int kind)`: A HOLE is of another KIND from now on: what it was. BAD.");
        e.bounds(0, 5, "turns 0 ?", "hole 0 5 5 5");
        e.bounds(0, 9, "turns ? 5", "deal 10");
        DigFill x = Edges.made("hole 5 5 5 5");
        e.due(5, x, "turns 0 5");
        e.due(5, x, "turns 0 0");
        e.each(BAD, x, "turns 0 6", "turns 1 0");
        e.due(0, x, "told 0 0");
    }

    static void promise6(Edges e) {
        e.says("`int set(int hole, int what, int v)`: PLACE, DEPTH, OWNER, AGE (what 1 .. 4) of a HOLE becomes v: what it was. BAD.");
        e.bounds(1, 4, "set 0 ? 0", "hole 0 5 5 5");
        e.bounds(0, 9, "set ? 1 0", "deal 10");
        int[] most = {0, 29, 99, 7, 999};
        for (int what = 1; what <= 4; what++) {
            e.bounds(0, most[what], "set 0 " + what + " ?", "hole 0 5 5 5");
            DigFill x = Edges.made("hole 0 5 5 5", "set 0 4 5");
            e.due(5, x, "set 0 " + what + " " + most[what]);
            e.due(BAD, x, "set 0 " + what + " " + (most[what] + 1));
            e.due(BAD, x, "set 0 " + what + " -1");
            e.due(most[what], x, "set 0 " + what + " 0");
        }
        e.each(BAD, Edges.made("hole 0 5 5 5"), "set 0 0 0", "set 0 5 0", "set 1 2 3");
    }

    static void promise7(Edges e) {
        e.says("`int settles(int hole, int x)`: SETTLES of a HOLE by x (0 .. 9). BAD.");
        e.bounds(0, 9, "settles 0 ?", "hole 0 5 5 5");
        e.bounds(0, 9, "settles ? 0", "deal 10");
        e.due(1, Edges.made("hole 0 5 0 5"), "settles 0 9");
    }

    static void promise8(Edges e) {
        e.says("`int rule(int what, int v)`: MILE (what 0), SWELL (1) becomes v: what it was. BAD.");
        e.bounds(0, 29, "rule 0 ?");
        e.bounds(50, 200, "rule 1 ?");
        DigFill x = new DigFill();
        e.each(BAD, x, "rule 2 50", "rule 2 10", "rule -1 50", "rule -1 10", "rule MIN 50", "rule MAX 10", "rule 0 50", "rule 1 10");
        e.due(10, x, "rule 0 29");
        e.due(29, x, "rule 0 0");
        e.due(0, x, "count 7");
        e.due(120, x, "rule 1 200");
        e.due(200, x, "rule 1 50");
        e.due(50, x, "count 8");
    }

    static void promise9(Edges e) {
        e.says("`int deal(int n)`: HOLES are drawn, n (1 .. 10) of them, as many as there is room for (no draws for others): how many came. BAD.");
        e.bounds(1, 10, "deal ?");
        DigFill x = new DigFill();
        int z = 1;
        for (int draws = 0; draws < 40; draws++) {
            z = Edges.next(z);
        }
        e.due(9, x, "deal 9");
        e.due(1, x, "deal 10");
        e.due(z, x, "count 12");
        e.each(0, x, "deal 1", "deal 10");
        e.due(BAD, x, "deal 11");
        e.due(z, x, "count 12");
        e.due(10, x, "count 0");
    }

    static void promise10(Edges e) {
        e.says("`int seed(int v)`: z becomes v: what it was.");
        DigFill x = new DigFill();
        e.due(1, x, "seed MIN");
        e.due(Integer.MIN_VALUE, x, "seed MAX");
        e.due(Integer.MAX_VALUE, x, "seed 0");
        e.due(0, x, "seed -1");
        e.due(-1, x, "count 12");
    }
}
