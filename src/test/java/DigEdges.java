/** Boundary cases of part 2 up to FREES, A DIG, WANTS, THE DEALING, and of promises 11 to 17. */
final class DigEdges {
    private static final int BAD = Edges.BAD, NO = Edges.NO, FULL = Edges.FULL, NONE = Edges.NONE;

    /** Ten SHAFTS of DEPTH 12, each with its number for its PLACE, some of them otherwise. SWELL 100. */
    private static DigFill ten(String... made) {
        DigFill x = Edges.made("rule 1 100");
        for (int h = 0; h < 10; h++) {
            x.hole(5, h, 12, h % 8);
        }
        for (String call : made) {
            Edges.answer(x, call);
        }
        return x;
    }

    private static void isHole(Edges e, DigFill x, int hole, int... parts) {
        for (int what = 0; what < parts.length; what++) {
            e.due(parts[what], x, "told " + hole + " " + what);
        }
    }

    // ---- a dig

    static void digTakesAllThatIsThere(Edges e) {
        e.says("2 A DIG of s at a PLACE into a HOLE that TAKES its EARTH: that HOLE's DEPTH is so much less;");
        DigFill x = Edges.made("hole 0 5 24 1", "hole 0 5 24 1");
        e.due(2, x, "dig 5 20 0 1"); // 24 of EARTH: all
        e.due(0, x, "told 0 2");
        e.due(NO, x, "dig 5 21 1 1"); // 25
        e.due(24, x, "told 1 2");
        e.due(3, x, "dig 5 19 1 1"); // 22
        e.due(2, x, "told 1 2");
        x.rule(1, 50);
        e.due(4, x, "dig 5 1 1 1"); // none
        e.due(2, x, "told 1 2");
        e.due(5, x, "dig 5 1 0 1"); // none, into a FILLED one
        e.due(0, x, "told 0 2");
    }

    static void liftedBySpades(Edges e) {
        e.says("LIFTED is s more;");
        DigFill x = Edges.made("hole 0 5 99 1", "rule 1 200");
        e.due(1, x, "dig 5 1 0 1");
        e.due(1, x, "count 5");
        x.rule(1, 50);
        e.due(2, x, "dig 5 99 0 1");
        e.due(100, x, "count 5");
        e.due(NO, x, "dig 5 99 0 1");
        e.due(100, x, "count 5");
    }

    static void newHoleOfADig(Edges e) {
        e.says("a new HOLE (of KIND 0) comes, with the PLACE, DEPTH s, the OWNER who digs.");
        DigFill x = Edges.made("rule 1 100", "hole 5 15 99 3", "hole 5 15 99 3");
        e.due(2, x, "dig 29 99 0 7");
        isHole(e, x, 2, 0, 29, 99, 7, 0);
        e.due(3, x, "dig 0 1 1 0");
        isHole(e, x, 3, 0, 0, 1, 0, 0);
        isHole(e, x, 0, 5, 15, 0, 3, 0);
        isHole(e, x, 1, 5, 15, 98, 3, 0);
        x.rule(1, 200);
        e.due(4, x, "dig 15 49 1 6"); // 98 of EARTH, but it is 49 deep
        isHole(e, x, 4, 0, 15, 49, 6, 0);
    }

    static void newHoleInPlaceOfAnOldOne(Edges e) {
        e.says("becomes the new one.)");
        DigFill x = ten("set 4 4 500", "set 4 2 0", "turns 4 3");
        e.due(4, x, "dig 29 1 0 7");
        isHole(e, x, 4, 0, 29, 1, 7, 0);
    }

    static void noRoomForTheEleventh(Edges e) {
        e.says("(It can't be, if there are 10 HOLES, unless one is FILLED");
        DigFill x = ten();
        e.each(FULL, x, "dig 5 11 5 1", "dig 5 1 0 1", "dig 5 1 9 1");
        e.due(120, x, "count 4");
        e.due(0, x, "count 5");
        x.set(9, 2, 0);
        e.due(9, x, "dig 5 11 5 1");
        e.due(1, x, "told 5 2");
        e.due(FULL, x, "dig 5 10 9 1");
    }

    static void filledByIt(Edges e) {
        e.says("or would be by it:");
        for (int h = 0; h < 10; h++) {
            DigFill x = ten();
            e.due(FULL, x, "dig 20 11 " + h + " 6");
            e.due(h, x, "dig 20 12 " + h + " 6");
            isHole(e, x, h, 0, 20, 12, 6, 0);
            e.due(10, x, "count 0");
            e.due(12, x, "count 5");
        }
    }

    static void leastThatIsFilledByThen(Edges e) {
        e.says("then the least number that is FILLED by then becomes the new one.)");
        e.due(3, ten("set 3 2 0", "set 8 2 0"), "dig 1 1 0 1");
        e.due(3, ten("set 3 2 0", "set 8 2 0"), "dig 1 12 9 1");
        e.due(0, ten("set 3 2 0", "set 8 2 0"), "dig 1 12 0 1");
        e.due(5, ten("set 8 2 0"), "dig 1 12 5 1");
        e.due(0, ten("set 0 2 0"), "dig 1 12 9 1");
        DigFill x = ten("set 3 2 0", "set 8 2 0");
        e.due(3, x, "dig 1 12 9 1");
        e.due(0, x, "told 9 2");
        e.due(0, x, "told 8 2");
        e.due(8, x, "dig 1 1 0 1");
        e.due(9, x, "dig 1 1 0 1");
        e.due(FULL, x, "dig 1 1 0 1");
    }

    static void nineLeaveRoom(Edges e) {
        e.says("if there are 10 HOLES,");
        DigFill x = Edges.made("rule 1 100");
        for (int h = 0; h < 9; h++) {
            x.hole(5, h, 12, 1);
        }
        x.set(2, 2, 0);
        e.due(9, x, "dig 1 12 0 1");
        e.each(0, x, "told 0 2", "told 2 2");
        e.due(0, x, "dig 1 12 1 1");
    }

    // ---- wants, the dealing

    static void sixWantsAtMost(Edges e) {
        e.says("WANTS, 6 at most, numbered from 0: a PLACE and spades 1 .. 99.");
        e.bounds(0, 29, "want ? 50");
        e.bounds(1, 99, "want 15 ?");
        DigFill x = new DigFill();
        for (int w = 0; w < 6; w++) {
            e.due(BAD, x, "dealing " + (2 + w));
            e.due(w, x, "want 29 99");
            e.due(NONE, x, "dealing " + (2 + w));
        }
        e.due(FULL, x, "want 29 99");
        e.due(6, x, "count 2");
        e.due(BAD, x, "dealing 8");
    }

    static void noHoleTwoOfThem(Edges e) {
        e.says("MET at once are WANTS that each have a HOLE that TAKES the EARTH of their dig from their PLACE, no HOLE two of them.");
        DigFill x = Edges.made("rule 1 100", "hole 0 5 99 1", "want 5 1", "want 5 1");
        e.due(1, x, "dealing 0");
        x.hole(0, 5, 99, 1);
        e.due(2, x, "dealing 0");
        x.forget();
        Edges.answer(x, "want 15 99");
        e.due(1, x, "dealing 0");
        x.rule(0, 9);
        e.due(0, x, "dealing 0");
        x.rule(0, 10);
        x.rule(1, 101);
        e.due(1, x, "dealing 0"); // 99 (cut)
        x.rule(1, 102);
        e.due(0, x, "dealing 0");
    }

    static void mostWantsComeFirst(Edges e) {
        e.says("THE DEALING: the most WANTS that can be MET at once;");
        // one with no mile, or two with 29 and 29
        DigFill x = Edges.made("rule 1 100", "hole 5 0 50 1", "hole 5 29 10 1", "want 0 10", "want 29 50");
        e.due(2, x, "dealing 0");
        e.due(58, x, "dealing 1");
        e.due(1, x, "dealing 2");
        e.due(0, x, "dealing 3");
        e.due(0, Edges.made("want 5 5"), "dealing 0");
        e.due(0, Edges.made("hole 0 5 5 5"), "dealing 0");
        DigFill all = ten("want 9 12", "want 8 12", "want 7 12", "want 6 12", "want 5 12", "want 4 12");
        e.due(6, all, "dealing 0");
    }

    static void fewestMilesTogether(Edges e) {
        e.says("of such ones with the fewest miles (PLACES apart, together);");
        // WANT 0 has HOLE 0 beside it, but HOLE 1 leaves fewer miles together: 6, not 1 and 7
        DigFill x = Edges.made("hole 0 10 50 0", "hole 0 14 50 0", "want 11 1", "want 7 1");
        e.due(6, x, "dealing 1");
        e.due(1, x, "dealing 2");
        e.due(0, x, "dealing 3");
        // of two WANTS for one HOLE the nearer one, though it comes behind
        DigFill y = Edges.made("hole 0 10 50 0", "want 12 1", "want 9 1");
        e.due(1, y, "dealing 1");
        e.due(NONE, y, "dealing 2");
        e.due(0, y, "dealing 3");
        e.due(0, Edges.made("want 12 1"), "dealing 1");
        e.due(0, Edges.made("hole 0 12 50 0", "want 12 1"), "dealing 1");
        e.due(29, Edges.made("hole 5 0 50 0", "want 29 1"), "dealing 1");
        DigFill far = Edges.made("rule 0 29");
        for (int i = 0; i < 6; i++) {
            far.hole(0, 0, 50, 0);
            far.want(29, 1);
        }
        e.due(174, far, "dealing 1");
    }

    static void leastHolesOfSeveral(Edges e) {
        e.says("of several the one in which WANT 0 has the least HOLE");
        DigFill x = ten("want 3 1", "want 3 1", "want 3 1");
        for (int h = 0; h < 10; h++) {
            x.set(h, 1, 3);
        }
        e.due(0, x, "dealing 2");
        e.due(1, x, "dealing 3");
        e.due(2, x, "dealing 4");
        // HOLES 8 and 9 are alike for both WANTS
        DigFill y = Edges.made("rule 1 100", "deal 8", "hole 5 3 99 0", "hole 5 3 99 0", "want 3 90", "want 3 91");
        e.due(8, y, "dealing 2");
        e.due(9, y, "dealing 3");
    }

    static void noHoleComesBehindAll(Edges e) {
        e.says("(to have none comes behind all)");
        // all of no mile: the last HOLE for WANT 0 comes ahead of none
        DigFill x = Edges.made("rule 1 100");
        for (int h = 0; h < 9; h++) {
            x.hole(0, 3, 1, 0);
        }
        Edges.answer(x, "hole 0 3 60 0");
        Edges.answer(x, "want 3 60");
        Edges.answer(x, "want 3 50");
        e.due(1, x, "dealing 0");
        e.due(9, x, "dealing 2");
        e.due(NONE, x, "dealing 3");
        // it is so for each WANT by itself
        DigFill y = Edges.made("rule 1 100", "hole 0 3 60 0", "want 3 61", "want 3 60", "want 3 60");
        e.each(NONE, y, "dealing 2", "dealing 4");
        e.due(0, y, "dealing 3");
    }

    static void thenTheNextWant(Edges e) {
        e.says("then WANT 1, and so on.");
        DigFill x = ten("want 3 1", "want 3 12", "want 3 1", "want 3 1", "want 3 1", "want 3 1");
        for (int h = 0; h < 10; h++) {
            x.set(h, 1, 3);
            x.set(h, 2, h == 1 || h == 2 ? 5 : 12);
        }
        // WANT 1 can't have HOLES 1 and 2
        int[] holes = {0, 3, 1, 2, 4, 5};
        for (int w = 0; w < 6; w++) {
            e.due(holes[w], x, "dealing " + (2 + w));
        }
        // by the numbers of WANTS, not by the numbers together: WANT 0 has 0, then WANT 1 has 9
        DigFill y = ten("want 3 1", "want 3 2", "set 0 1 3", "set 8 1 3", "set 9 1 3");
        for (int h = 1; h < 10; h++) {
            y.set(h, 2, h == 8 ? 1 : h == 9 ? 2 : 0);
        }
        y.set(0, 2, 2);
        e.due(0, y, "dealing 2");
        e.due(9, y, "dealing 3");
    }

    static void addsOneOrNone(Edges e) {
        e.says("ADDS of a HOLE: how many WANTS are MET in THE DEALING, less how many without this HOLE.");
        e.due(0, Edges.made("hole 0 5 50 0"), "adds 0");
        e.due(1, Edges.made("hole 0 5 50 0", "want 5 1"), "adds 0");
        e.each(0, Edges.made("hole 0 5 50 0", "hole 0 9 50 0", "want 5 1"), "adds 0", "adds 1");
        e.each(1, Edges.made("hole 0 5 50 0", "hole 0 9 50 0", "want 5 1", "want 5 2", "want 5 3"), "adds 0", "adds 1");
        // of three HOLES for two WANTS just the one that alone is deep enough
        DigFill x = Edges.made("rule 1 100", "hole 0 5 9 0", "hole 0 5 50 0", "hole 0 5 9 0", "want 5 50", "want 5 9");
        e.each(0, x, "adds 0", "adds 2");
        e.due(1, x, "adds 1");
    }

    static void freesFromOneToNinetyNine(Edges e) {
        e.says("FREES: the least spades 1 .. 99 of a new HOLE (KIND 0) at a PLACE with which one more WANT could be MET.");
        e.due(1, Edges.made("rule 1 50", "want 5 1"), "frees 5"); // of no EARTH
        e.due(1, Edges.made("rule 1 50", "want 5 2"), "frees 5");
        e.due(2, Edges.made("rule 1 50", "want 5 4"), "frees 5");
        e.due(99, Edges.made("rule 1 100", "want 5 99"), "frees 5");
        e.due(99, Edges.made("want 5 83"), "frees 5");
        e.due(NONE, Edges.made("want 5 84"), "frees 5");
        e.due(NONE, Edges.made("rule 1 200", "want 5 50"), "frees 5");
        e.due(NONE, Edges.made("rule 1 200", "want 5 99"), "frees 5");
        e.due(51, Edges.made("rule 1 100", "want 5 99", "want 5 51", "want 5 52"), "frees 5");
    }

    static void freesAsFarAsAMile(Edges e) {
        e.says("of a new HOLE (KIND 0) at a PLACE");
        DigFill x = Edges.made("rule 1 100", "want 15 7");
        e.each(7, x, "frees 5", "frees 15", "frees 25");
        e.each(NONE, x, "frees 4", "frees 26");
        x.rule(0, 0);
        e.due(7, x, "frees 15");
        e.each(NONE, x, "frees 14", "frees 16");
    }

    static void freesOneMoreOrNone(Edges e) {
        e.says("with which one more WANT could be MET.");
        e.due(NONE, new DigFill(), "frees 5");
        e.due(NONE, Edges.made("hole 0 5 50 0"), "frees 5");
        e.due(NONE, Edges.made("hole 0 5 50 0", "want 5 1"), "frees 5");
        DigFill x = Edges.made("rule 1 100", "hole 0 5 50 0", "want 5 40", "want 5 8");
        e.due(8, x, "frees 5");
        // a HOLE of 3 helps, as the one that WANT 1 has is WANT 0's then
        DigFill y = Edges.made("rule 1 100", "hole 0 5 50 0", "want 6 40", "want 5 3");
        e.due(3, y, "frees 5");
        DigFill z = Edges.made("rule 1 100", "hole 0 5 5 0", "want 5 40", "want 5 3");
        e.due(40, z, "frees 5");
        e.due(40, ten("want 5 40"), "frees 5");
    }

    // ---- promises 11 to 17

    static void promise11(Edges e) {
        e.says("`int takes(int place, int s)`: Which HOLES TAKE the EARTH of a dig of s (1 .. 99) from a PLACE, as a set. BAD.");
        e.bounds(0, 29, "takes ? 5", "deal 10");
        e.bounds(1, 99, "takes 5 ?", "deal 10");
        e.due(0, new DigFill(), "takes 29 99");
        e.due(1023, ten(), "takes 29 12");
        e.due(0, ten(), "takes 29 13");
        e.due(512, ten("set 9 2 99"), "takes 29 99");
        e.due(1, ten("set 0 2 99"), "takes 29 99");
    }

    static void setsAreToldByBits(Edges e) {
        e.says("Sets of HOLES are told by bits.");
        for (int h = 0; h < 10; h++) {
            e.due(1 << h, ten("set " + h + " 2 13"), "takes 0 13");
            e.due(1023 - (1 << h), ten("set " + h + " 2 11"), "takes 0 12");
        }
    }

    static void promise12(Edges e) {
        e.says("`int dig(int place, int s, int hole, int owner)`: A DIG of s (1 .. 99) at a PLACE into a HOLE by an OWNER: "
            + "the number of the new HOLE. BAD; NO: it does not TAKE it; FULL.");
        e.bounds(0, 29, "dig ? 5 0 5", "hole 5 5 99 5");
        e.bounds(1, 99, "dig 5 ? 0 5", "rule 1 100", "hole 5 5 99 5");
        e.bounds(0, 1, "dig 5 5 ? 5", "hole 5 5 99 5", "hole 5 5 99 5");
        e.bounds(0, 7, "dig 5 5 0 ?", "hole 5 5 99 5");
        e.each(BAD, new DigFill(), "dig 5 5 0 5", "dig 5 5 -1 5");
        DigFill x = ten();
        e.each(BAD, x, "dig 30 13 0 1", "dig 5 100 0 1", "dig 5 13 10 1", "dig 5 13 0 8", "dig 5 0 0 1");
        e.each(NO, x, "dig 5 13 0 1", "dig 5 99 9 1");
        e.each(FULL, x, "dig 5 11 0 1", "dig 5 1 9 1");
        e.due(0, x, "dig 5 12 0 1");
    }

    static void promise13(Edges e) {
        e.says("`int want(int place, int s)`: One more WANT: its number. BAD; FULL.");
        e.bounds(0, 29, "want ? 1");
        e.bounds(1, 99, "want 0 ?");
        DigFill x = Edges.made("want 1 1", "want 1 1", "want 1 1", "want 1 1", "want 1 1");
        e.due(5, x, "want 29 99");
        e.each(FULL, x, "want 29 99", "want 0 1");
        e.each(BAD, x, "want 30 1", "want -1 1", "want 1 0", "want 1 100");
    }

    static void promise14(Edges e) {
        e.says("`int forget()`: WANTS are no more: how many there were.");
        DigFill x = new DigFill();
        e.due(0, x, "forget");
        for (int w = 0; w < 6; w++) {
            x.want(1, 1);
        }
        e.due(6, x, "forget");
        e.each(0, x, "forget", "count 2", "want 1 1");
    }

    static void promise15(Edges e) {
        e.says("`int dealing(int what)`: THE DEALING: what 0 how many are MET, 1 miles, 2 and w: the HOLE of WANT w (NONE). BAD.");
        for (int wants = 0; wants <= 6; wants++) {
            DigFill x = Edges.made("hole 0 5 50 0");
            for (int w = 0; w < wants; w++) {
                x.want(6, 1);
            }
            e.due(Math.min(1, wants), x, "dealing 0");
            e.due(Math.min(1, wants), x, "dealing 1");
            for (int w = 0; w < wants; w++) {
                e.due(w == 0 ? 0 : NONE, x, "dealing " + (2 + w));
            }
            e.each(BAD, x, "dealing " + (2 + wants), "dealing -1", "dealing MIN", "dealing MAX");
        }
    }

    static void promise16(Edges e) {
        e.says("`int adds(int hole)`: ADDS. BAD.");
        e.bounds(0, 0, "adds ?", "hole 0 5 5 5");
        e.bounds(0, 9, "adds ?", "deal 10");
        e.due(BAD, new DigFill(), "adds 0");
    }

    static void promise17(Edges e) {
        e.says("`int frees(int place)`: FREES at a PLACE. BAD; NONE: none does.");
        e.bounds(0, 29, "frees ?", "rule 0 29", "want 5 5");
        e.due(NONE, new DigFill(), "frees 0");
        e.each(BAD, new DigFill(), "frees 30", "frees -1");
    }
}
