/** Boundary cases of A DAY and of part 3, what is only thought, and of promises 18 to 25. */
final class DayEdges {
    private static final int BAD = Edges.BAD, NOTHING = Edges.NOTHING, NONE = Edges.NONE;

    // ---- a day

    static void drawsForThoseNotFilled(Edges e) {
        e.says("A DAY: of each HOLE that is not FILLED, by numbers: a draw;");
        DigFill x = Edges.made("say settle x", "hole 0 5 0 5", "hole 0 5 99 5", "hole 0 5 0 5", "hole 0 5 99 5", "seed 7");
        int first = Edges.next(7);
        int second = Edges.next(first);
        e.due(2, x, "days 1");
        e.due(second, x, "count 12");
        e.due(99 - Edges.lot(first) % 10, x, "told 1 2");
        e.due(99 - Edges.lot(second) % 10, x, "told 3 2");
        e.holds("the two lots differ", Edges.lot(first) % 10 != Edges.lot(second) % 10);
        int[] ages = {0, 1, 0, 1};
        for (int h = 0; h < 4; h++) {
            e.due(ages[h], x, "told " + h + " 4");
        }
        DigFill filled = Edges.made("hole 0 5 0 5", "days 100");
        e.due(1, filled, "count 12");
        DigFill none = Edges.made("days 100");
        e.due(1, none, "count 12");
        DigFill last = Edges.made("hole 3 5 1 5", "days 1");
        e.due(Edges.next(1), last, "count 12");
    }

    static void restByTen(Edges e) {
        e.says("x is its rest by 10;");
        boolean[] seen = new boolean[10];
        for (int seed = 0; seed < 60; seed++) {
            int x = Edges.lot(Edges.next(seed)) % 10;
            seen[x] = true;
            e.due(99 - x, Edges.made("say settle x", "hole 0 5 99 5", "seed " + seed, "days 1"), "told 0 2");
        }
        for (int x = 0; x <= 9; x++) {
            e.holds("there was a rest of " + x, seen[x]);
        }
    }

    private static DigFill dayLater(int depth, int gives) {
        return Edges.made("hole 0 5 " + depth + " 5", "say settle " + gives, "days 1");
    }

    static void depthEndsAtNone(Edges e) {
        e.says("DEPTH is what it SETTLES by x less (0 at least;");
        e.due(1, dayLater(10, 9), "told 0 2");
        e.due(0, dayLater(9, 9), "told 0 2");
        e.due(0, dayLater(8, 9), "told 0 2");
        e.due(0, dayLater(1, 9), "told 0 2");
        e.due(1, dayLater(1, 0), "told 0 2");
        DigFill grave = Edges.made("hole 1 5 10 5", "hole 1 5 11 5", "say settle 9", "days 1");
        e.due(0, grave, "told 0 2");
        e.due(1, grave, "told 1 2");
    }

    static void lostIsWhatItBecameLess(Edges e) {
        e.says("so much more is LOST);");
        e.due(9, dayLater(10, 9), "count 6");
        e.due(9, dayLater(9, 9), "count 6");
        e.due(8, dayLater(8, 9), "count 6");
        e.due(1, dayLater(1, 9), "count 6");
        e.due(0, dayLater(1, 0), "count 6");
        e.due(0, dayLater(0, 9), "count 6");
        DigFill x = Edges.made("hole 0 5 99 5", "hole 0 5 3 5", "say settle 9", "days 100");
        e.due(102, x, "count 6");
    }

    static void ageEndsAt999(Edges e) {
        e.says("AGE is 1 more (999 at most).");
        DigFill x = Edges.made("hole 3 5 9 5", "set 0 4 998", "hole 3 5 9 5", "days 1");
        e.due(999, x, "told 0 4");
        e.due(1, x, "told 1 4");
        x.days(1);
        e.due(999, x, "told 0 4");
        e.due(2, x, "told 1 4");
        x.days(100);
        e.due(999, x, "told 0 4");
        // the day on which it is filled makes it older, those behind it don't
        DigFill y = Edges.made("hole 0 5 9 5", "say settle 9", "days 1");
        e.due(1, y, "told 0 4");
        y.days(1);
        e.due(1, y, "told 0 4");
    }

    static void thenTheDayIsOneMore(Edges e) {
        e.says("Then THE DAY is 1 more.");
        DigFill x = new DigFill();
        x.days(1);
        e.due(1, x, "count 3");
        x.days(100);
        e.due(101, x, "count 3");
    }

    static void lotIsOneAtFirst(Edges e) {
        e.says("z is told (1 at first).");
        e.due(1, new DigFill(), "count 12");
        e.due(1, new DigFill(), "seed 5");
    }

    static void drawsWrapAround(Edges e) {
        e.says("A draw: z becomes z * 1103515245 + 12345 (an int); it gives z >>> 8.");
        int above = 0;
        int below = 0;
        int[] seeds = {0, 1, 2, 3, -1, -2, Integer.MIN_VALUE, Integer.MAX_VALUE, 65536, 99999999, -1580304714, 1 << 30};
        for (int seed : seeds) {
            DigFill x = Edges.made("say settle x", "hole 0 5 99 5", "seed " + seed, "days 1");
            int z = Edges.next(seed);
            e.due(z, x, "count 12");
            e.due(99 - Edges.lot(z) % 10, x, "told 0 2");
            above += z > 0 ? 1 : 0;
            below += z < 0 && (z >> 8) % 10 != -(Edges.lot(z) % 10) ? 1 : 0;
        }
        e.holds("z above 0 and below it", above > 2 && below > 2);
        e.due(12345, Edges.made("seed 0", "hole 3 5 5 5", "days 1"), "count 12");
    }

    static void drawnHolesFromEndToEnd(Edges e) {
        e.says("HOLES that are drawn: KIND the rest of a draw by 6, PLACE that of one more by 30, "
            + "DEPTH 1 and that of one more by 60, OWNER that of one more by 8.");
        int[] by = {6, 30, 60, 8};
        int[] least = {0, 0, 1, 0};
        int[] seen = {0, 0, 0, 0};
        for (int seed = 0; seed < 400; seed++) {
            DigFill x = Edges.made("seed " + (seed * 7919), "deal 1");
            int z = seed * 7919;
            for (int part = 0; part < 4; part++) {
                z = Edges.next(z);
                int rest = Edges.lot(z) % by[part];
                e.due(least[part] + rest, x, "told 0 " + part);
                seen[part] |= rest == 0 ? 1 : rest == by[part] - 1 ? 2 : 0;
            }
            e.due(0, x, "told 0 4");
            e.due(z, x, "count 12");
        }
        for (int part = 0; part < 4; part++) {
            e.is("both ends were drawn of part " + part, 3, seen[part]);
        }
    }

    // ---- what is only thought

    static void thoughtChangesNothing(Edges e) {
        e.says("3 (All this is only thought, from now on, z as it is, without the bound of THE DAY: nothing changes.)");
        String[] calls = {
            "behind 0 0", "behind 100 0", "behind 100 1", "behind 100 2", "paid", "best 0 0", "best 30 0", "best 30 1", "owes 0",
            "debtor", "dug 0 0", "dug 1 1", "fine 1"};
        for (String call : calls) {
            Lived.changesNothing(e, call);
        }
    }

    static void thoughtFromTheLotAsItIs(Edges e) {
        e.says("is only thought, from now on, z as it is,");
        for (int seed = 0; seed < 20; seed++) {
            DigFill x = Edges.made("seed " + seed, "deal 10", "say settle x");
            for (int days = 1; days <= 20; days += 6) {
                DigFill y = Edges.made("seed " + seed, "deal 10", "say settle x", "days " + days);
                e.due(y.count(4), x, "behind " + days + " 1");
                e.due(y.count(1), x, "behind " + days + " 2");
            }
            int paid = x.paid();
            DigFill y = Edges.made("seed " + seed, "deal 10", "say settle x");
            for (int day = 0; day < 40 && y.count(1) < 10; day++) {
                e.holds("not paid on day " + day, paid == NONE || day < paid);
                y.days(1);
            }
            e.is("paid", y.count(1) < 10 ? NONE : y.count(3), paid);
        }
    }

    static void thoughtFromAllAsItIs(Edges e) {
        e.says("is only thought, from now on,");
        DigFill x = Edges.made("rule 0 0", "rule 1 50", "say settle 9*(a=500)", "hole 1 5 50 7", "set 0 4 498", "want 5 99", "say law 99", "days 1");
        e.due(1, x, "best 0 1");
        e.due(1, x, "behind 0 0"); // 49 of EARTH, of a depth of 49
        e.due(49, x, "behind 0 1");
        e.due(48, x, "behind 1 1"); // it is of AGE 499, and of 500 a day later
        e.due(38, x, "behind 2 1");
        e.due(0, x, "behind 1 0");
        e.due(37, x, "behind 3 1");
        e.due(40, x, "paid");
    }

    static void behindBeyondTheLastDay(Edges e) {
        e.says("without the bound of THE DAY: nothing changes.)");
        DigFill x = Edges.onDay(9999, "say settle 5", "hole 0 5 99 5", "hole 0 5 20 5", "want 5 1", "want 5 2");
        e.due(119, x, "behind 0 1");
        e.due(109, x, "behind 1 1");
        e.due(79, x, "behind 4 1");
        e.due(1, x, "behind 4 2");
        e.due(2, x, "behind 3 0");
        e.due(1, x, "behind 4 0");
        e.due(0, x, "behind 100 0");
        e.due(9999, x, "count 3");
    }

    static void paidBeyondTheLastDay(Edges e) {
        e.says("without the bound of THE DAY: nothing changes.)");
        e.due(20, Edges.onDay(9999, "say settle 5", "hole 0 5 99 5"), "paid");
        e.due(99, Edges.onDay(9990, "say settle 1", "hole 0 5 99 5"), "paid");
    }

    static void bestBeyondTheLastDay(Edges e) {
        e.says("without the bound of THE DAY: nothing changes.)");
        DigFill x = Edges.onDay(9998, "say law 7", "say settle 0", "hole 1 5 50 5", "want 5 5");
        e.due(7, x, "best 30 0");
        e.due(1, x, "best 30 1");
        e.due(0, x, "best 6 1");
    }

    static void dugBeyondTheLastDay(Edges e) {
        e.says("without the bound of THE DAY: nothing changes.)");
        DigFill x = Edges.onDay(9999, "say settle 5", "hole 0 5 99 5", "sheet 0 0 3", "mark 0 0 99", "mark 0 1 94", "mark 0 2 88");
        e.due(1, x, "dug 0 1");
    }

    static void behindNoDays(Edges e) {
        e.says("BEHIND n DAYS: how many WANTS are MET in THE DEALING; DEPTH of all HOLES, together; how many are FILLED.");
        DigFill x = Edges.made("hole 0 5 99 5", "hole 0 5 0 5", "hole 0 5 1 5", "want 5 1", "want 5 1", "want 5 1", "say settle 9");
        e.due(2, x, "behind 0 0");
        e.due(100, x, "behind 0 1");
        e.due(1, x, "behind 0 2");
        e.due(1, x, "behind 1 0");
        e.due(90, x, "behind 1 1");
        e.due(2, x, "behind 1 2");
        e.due(0, x, "behind 11 0");
        e.due(0, x, "behind 11 1");
        e.due(3, x, "behind 11 2");
        e.each(0, new DigFill(), "behind 0 0", "behind 0 1", "behind 0 2", "behind 100 0", "behind 100 1", "behind 100 2");
    }

    static void paidFromNoneToThreeHundred(Edges e) {
        e.says("PAID: behind how many DAYS (0 .. 300) all HOLES are FILLED first.");
        e.due(0, new DigFill(), "paid");
        e.due(0, Edges.made("hole 0 5 0 5", "hole 3 5 0 5"), "paid");
        e.due(1, Edges.made("hole 0 5 1 5", "hole 0 5 0 5", "say settle 1"), "paid");
        e.due(2, Edges.made("hole 0 5 9 5", "hole 0 5 10 5", "say settle 9"), "paid");
        // a HOLE is AGE 299 on the DAY behind which 300 have gone by
        e.due(299, Edges.made("hole 0 5 9 5", "say settle 9*(a=298)"), "paid");
        e.due(300, Edges.made("hole 0 5 9 5", "say settle 9*(a=299)"), "paid");
        e.due(NONE, Edges.made("hole 0 5 9 5", "say settle 9*(a=300)"), "paid");
        e.due(NONE, Edges.made("hole 3 5 1 5", "say settle 9"), "paid");
    }

    static void waitTheFirstOfThem(Edges e) {
        e.says("WAIT of n: of 0 .. n DAYS the first behind which most WANTS are MET.");
        // it takes 1 behind 5 DAYS, and behind 10 no more
        DigFill x = Edges.made("say law 5", "say settle 0", "hole 1 5 50 5", "want 5 5", "want 5 5");
        int[][] due = {{0, 0, 0}, {4, 0, 0}, {5, 5, 1}, {6, 5, 1}, {30, 5, 1}};
        for (int[] d : due) {
            e.due(d[1], x, "best " + d[0] + " 0");
            e.due(d[2], x, "best " + d[0] + " 1");
        }
        // the most are now, as the HOLES are soon FILLED
        DigFill y = Edges.made("say settle 9", "hole 0 5 50 5", "want 5 5");
        e.due(0, y, "best 30 0");
        e.due(1, y, "best 30 1");
        DigFill z = Edges.made("say law 30", "say settle 0", "hole 1 5 50 5", "want 5 5");
        e.due(30, z, "best 30 0");
        e.due(0, z, "best 29 0");
        e.due(0, new DigFill(), "best 30 0");
    }

    static void owesOfNoHolesAndOfTen(Edges e) {
        e.says("OWES of an OWNER: DEPTH of all its HOLES, together.");
        DigFill x = new DigFill();
        for (int h = 0; h < 10; h++) {
            e.due(99 * h, x, "owes 7");
            x.hole(h % 6, 5, 99, 7);
        }
        e.due(990, x, "owes 7");
        e.each(0, x, "owes 0", "owes 6");
    }

    static void debtorOfSeveralTheLeast(Edges e) {
        e.says("DEBTOR: the OWNER with the greatest OWES; of several the least.");
        e.due(0, new DigFill(), "debtor");
        e.due(0, Edges.made("hole 0 5 0 7"), "debtor");
        e.due(7, Edges.made("hole 0 5 1 7"), "debtor");
        e.due(3, Edges.made("hole 0 5 9 7", "hole 0 5 9 3", "hole 0 5 8 0"), "debtor");
        e.due(7, Edges.made("hole 0 5 10 7", "hole 0 5 9 3", "hole 0 5 8 0"), "debtor");
        e.due(0, Edges.made("hole 0 5 10 7", "hole 0 5 5 0", "hole 0 5 5 0"), "debtor");
    }

    static void dugByNumbersAlone(Edges e) {
        e.says("DUG by a SHEET: the HOLE whose DEPTH behind k DAYS and places k that are numbers (k from 0 on)");
        DigFill x = Edges.made("hole 0 5 50 5", "hole 3 5 40 5", "say settle 2", "sheet 0 1 24");
        for (int p = 0; p < 24; p++) {
            Edges.answer(x, "mark 0 " + p + " NONE");
        }
        e.due(0, x, "dug 0 0");
        e.due(0, x, "dug 0 1");
        Edges.answer(x, "mark 0 0 50"); // behind no DAY: 50, 40
        e.due(0, x, "dug 0 0");
        e.due(0, x, "dug 0 1");
        Edges.answer(x, "mark 0 23 4"); // behind 23 DAYS: 4, 40
        e.due(0, x, "dug 0 1");
        Edges.answer(x, "mark 0 23 40");
        e.due(1, x, "dug 0 0"); // 0 and 36, 10 and 0
        e.due(10, x, "dug 0 1");
    }

    static void dugSignsLeftOut(Edges e) {
        e.says("differ least (signs left out), together;");
        DigFill x = Edges.made("hole 3 5 50 5", "hole 3 5 40 5", "sheet 0 0 2", "mark 0 0 53", "mark 0 1 47");
        e.due(0, x, "dug 0 0");
        e.due(6, x, "dug 0 1");
        DigFill y = Edges.made("hole 3 5 0 5", "sheet 0 1 24", "sheet 1 0 24");
        for (int p = 0; p < 24; p++) {
            Edges.answer(y, "mark 0 " + p + (p % 2 == 0 ? " 99999" : " -99999"));
            Edges.answer(y, "mark 1 " + p + (p % 2 == 0 ? " 32767" : " -32768"));
        }
        e.due(24 * 99999, y, "dug 0 1");
        e.due(12 * 32767 + 12 * 32768, y, "dug 1 1");
    }

    static void dugOfSeveralTheLeast(Edges e) {
        e.says("together; of several the least.");
        DigFill x = Edges.made("hole 3 5 50 5", "hole 3 5 40 5", "hole 3 5 40 5", "hole 3 5 20 5", "sheet 0 0 1", "mark 0 0 30", "sheet 1 0 0");
        e.due(1, x, "dug 0 0");
        e.due(10, x, "dug 0 1");
        e.due(0, x, "dug 1 0");
        e.due(0, x, "dug 1 1");
    }

    /** All that there may be of HOLES and of places: the last HOLE at the last place tells. */
    static void dugOfTenHoles(Edges e) {
        e.says("differ least (signs left out), together; of several the least.");
        DigFill x = Edges.made("sheet 0 0 24", "mark 0 23 1");
        for (int h = 0; h < 10; h++) {
            x.hole(3, 5, h == 9 ? 1 : 2, 5);
        }
        e.due(9, x, "dug 0 0");
        e.due(23, x, "dug 0 1");
        x.set(9, 2, 2);
        e.due(0, x, "dug 0 0");
        e.due(47, x, "dug 0 1");
    }

    /** The sixth WANT is thought of too: at first there is a HOLE for it alone. */
    static void thoughtOfSixWants(Edges e) {
        e.says("how many WANTS are MET in THE DEALING; DEPTH of all HOLES, together; how many are FILLED.");
        DigFill x = Edges.made("rule 1 100", "rule 0 0", "say settle 1", "hole 0 29 60 0");
        for (int w = 0; w < 5; w++) {
            x.want(0, 99);
        }
        e.due(5, x, "want 29 60");
        e.due(1, x, "behind 0 0");
        e.due(0, x, "behind 1 0");
        e.due(1, x, "best 1 1");
        x.set(0, 2, 61);
        e.due(1, x, "behind 1 0");
        e.due(0, x, "behind 2 0");
    }

    // ---- promises 18 to 25

    static void promise18(Edges e) {
        e.says("`int days(int n)`: n (1 .. 100) DAYS (no more than up to 9999): how many HOLES are FILLED then. BAD.");
        e.bounds(1, 100, "days ?", "deal 5");
        DigFill x = Edges.onDay(9950, "hole 0 5 99 5", "hole 0 5 0 5", "say settle 1");
        e.due(1, x, "days 100");
        e.due(9999, x, "count 3");
        e.due(50, x, "told 0 2");
        e.due(49, x, "told 0 4");
        e.due(BAD, x, "days 0");
        e.each(1, x, "days 1", "days 100");
        e.due(50, x, "told 0 2");
        e.due(BAD, x, "days 101");
    }

    static void promise19(Edges e) {
        e.says("`int behind(int n, int what)`: BEHIND n (0 .. 100) DAYS: what 0 how many are MET, 1 DEPTH of all, together, 2 how many are FILLED. BAD.");
        e.bounds(0, 100, "behind ? 1", "deal 5");
        e.bounds(0, 2, "behind 100 ?", "deal 5");
        DigFill x = Edges.made("hole 0 5 99 5", "say settle a=99");
        e.due(99, x, "behind 99 1");
        e.due(98, x, "behind 100 1");
    }

    static void promise20(Edges e) {
        e.says("`int paid()`: PAID. NONE: not by then.");
        e.due(NONE, Edges.made("hole 0 5 9 5", "say settle 0"), "paid");
        e.due(NONE, Edges.made("hole 0 5 1 5", "say settle a=300"), "paid");
        e.due(300, Edges.made("hole 0 5 1 5", "say settle a=299"), "paid");
    }

    static void promise21(Edges e) {
        e.says("`int best(int n, int what)`: WAIT of n (0 .. 30): what 0 how many DAYS, 1 how many are MET then. BAD.");
        e.bounds(0, 30, "best ? 0", "deal 5", "want 5 1");
        e.bounds(0, 1, "best 30 ?", "deal 5", "want 5 1");
    }

    static void promise22(Edges e) {
        e.says("`int owes(int owner)`: OWES of an OWNER. BAD.");
        e.bounds(0, 7, "owes ?");
        e.bounds(0, 7, "owes ?", "deal 10");
    }

    static void promise23(Edges e) {
        e.says("`int debtor()`: DEBTOR.");
        for (int owner = 0; owner <= 7; owner++) {
            e.due(owner, Edges.made("hole 0 5 9 " + owner), "debtor");
            e.due(0, Edges.made("hole 0 5 9 " + owner, "hole 0 5 9 0"), "debtor");
        }
    }

    static void promise24(Edges e) {
        e.says("`int dug(int sheet, int what)`: DUG by a SHEET: what 0 the HOLE, 1 the differences, together. BAD; NOTHING; NONE: there are no HOLES.");
        for (int sheet = 0; sheet <= 3; sheet++) {
            DigFill x = Edges.made("sheet " + sheet + " 1 3");
            e.each(NONE, x, "dug " + sheet + " 0", "dug " + sheet + " 1");
            e.each(NOTHING, x, "dug " + (3 - sheet) + " 0", "dug " + (3 - sheet) + " 1");
            x.hole(0, 5, 0, 5);
            e.each(0, x, "dug " + sheet + " 0", "dug " + sheet + " 1");
            e.each(BAD, x, "dug 3 2", "dug 0 -1", "dug 0 MIN", "dug 3 MAX");
            e.each(BAD, x, "dug 4 0", "dug -1 1", "dug MIN 0", "dug MAX 1");
        }
    }

    static void promise25(Edges e) {
        e.says("`int fine(int owner)`: What fine gives for an OWNER. BAD.");
        e.bounds(0, 7, "fine ?");
        e.bounds(0, 7, "fine ?", "deal 10", "say fine 2*e");
        e.due(-1, Edges.made("say fine 0-1"), "fine 0");
        e.due(Integer.MIN_VALUE, Edges.made("say fine 2048*1024*1024"), "fine 7");
    }
}
