/** Boundary cases of SHEETS, SLOTS and FINDINGS in part 5, and of promises 31 to 39. */
final class SheetEdges {
    private static final int BAD = Edges.BAD, NO = Edges.NO, NONE = Edges.NONE;
    private static final int NOTHING = Edges.NOTHING, KIND = Edges.KIND, INDEX = Edges.INDEX, SIZE = Edges.SIZE;

    /** The places of a SHEET are these and no more, KIND where one is NO NUMBER. */
    private static void isRow(Edges e, DigFill x, int sheet, int... places) {
        x.lay(4, 2, sheet);
        for (int p = 0; p < places.length; p++) {
            e.due(places[p] == NONE ? KIND : places[p], x, "item 4 " + p);
        }
        e.due(INDEX, x, "item 4 " + places.length);
    }

    private static void row(DigFill x, int sheet, int sort, int... places) {
        x.sheet(sheet, sort, places.length);
        for (int p = 0; p < places.length; p++) {
            x.mark(sheet, p, places[p]);
        }
    }

    // ---- sheets and slots

    static void fourSheets(Edges e) {
        e.says("5 SHEETS 0 .. 3 are rows");
        e.bounds(0, 3, "sheet ? 0 5");
        e.bounds(0, 3, "sheet ? -1 5");
        DigFill x = Edges.made("sheet 0 0 1", "sheet 1 0 2", "sheet 2 1 3", "sheet 3 1 4", "mark 3 3 5");
        isRow(e, x, 0, 0);
        isRow(e, x, 1, 0, 0);
        isRow(e, x, 2, 0, 0, 0);
        isRow(e, x, 3, 0, 0, 0, 5);
    }

    static void shortsAndFloats(Edges e) {
        e.says("of shorts (sort 0) or floats (1; whole numbers)");
        DigFill x = Edges.made("sheet 0 0 2", "sheet 1 1 2", "mark 0 0 40000", "mark 1 0 40000", "mark 0 1 -32769", "mark 1 1 -32769");
        isRow(e, x, 0, 40000 - 65536, 32767);
        isRow(e, x, 1, 40000, -32769);
        e.each(BAD, x, "sheet 0 2 1", "sheet 0 -2 1", "sheet 0 MAX 1", "sheet 0 MIN 1");
    }

    static void noPlacesToTwentyFour(Edges e) {
        e.says("with 0 to 24 places");
        for (int sort = 0; sort <= 1; sort++) {
            DigFill x = Edges.made("sheet 0 " + sort + " 0", "sheet 1 " + sort + " 24", "mark 1 23 7");
            isRow(e, x, 0);
            int[] places = new int[24];
            places[23] = 7;
            isRow(e, x, 1, places);
            e.due(INDEX, x, "mark 0 0 1");
            e.due(BAD, x, "sheet 1 " + sort + " 25");
            e.due(SIZE, x, "sheet 1 " + sort + " -1");
            isRow(e, x, 1, places);
        }
    }

    static void missingAtFirst(Edges e) {
        e.says("or MISSING (at first).");
        DigFill x = new DigFill();
        for (int s = 0; s < 4; s++) {
            e.each(NOTHING, x, "mark " + s + " 0 0", "pour " + s, "reads " + s, "dug " + s + " 0", "lay 0 2 " + s, "copy " + s + " 0 " + s + " 0 0");
        }
    }

    static void noNumberInFloatsAlone(Edges e) {
        e.says("A place of floats may be NO NUMBER.");
        DigFill x = Edges.made("sheet 0 1 2", "mark 0 1 NONE", "sheet 1 0 2", "mark 1 0 9");
        isRow(e, x, 0, 0, NONE);
        e.due(KIND, x, "mark 1 0 NONE");
        isRow(e, x, 1, 9, 0);
        Edges.answer(x, "mark 0 1 5");
        isRow(e, x, 0, 0, 5);
    }

    static void fiveSlots(Edges e) {
        e.says("SLOTS 0 .. 4 each hold nothing (at first)");
        e.bounds(0, 4, "lay ? 3 5");
        DigFill x = new DigFill();
        for (int slot = 0; slot < 5; slot++) {
            e.each(NOTHING, x, "rest " + slot + " 1", "ask " + slot + " 0", "item " + slot + " 0");
        }
        for (int slot = 0; slot < 5; slot++) {
            e.due(0, x, "lay " + slot + " 3 " + (slot + 10));
        }
        for (int slot = 0; slot < 5; slot++) {
            e.due(slot + 10, x, "rest " + slot + " 100");
        }
        e.due(BAD, x, "rest 5 100");
    }

    static void aHoleForGood(Edges e) {
        e.says("a HOLE (as it is then, for good)");
        DigFill x = Edges.made("hole 3 5 20 2", "keep", "lay 0 1 0", "turns 0 5", "set 0 1 29", "set 0 2 1", "set 0 3 7", "set 0 4 9");
        e.due(44, x, "ask 0 3");
        x.back();
        e.due(44, x, "ask 0 1");
        Edges.answer(x, "days 100");
        e.due(44, x, "ask 0 0");
        // in place of a HOLE that is there no more another one has its number
        DigFill y = Edges.made("rule 1 100", "deal 10", "set 9 2 0", "turns 9 2", "lay 0 1 9", "turns 8 5", "set 8 2 50", "dig 5 1 8 1");
        e.due(0, y, "told 9 0");
        e.due(120, y, "ask 0 2");
    }

    static void aRowOfItsOwn(Edges e) {
        e.says("a SHEET (a row of its own, as it was then)");
        DigFill x = Edges.made("sheet 0 1 2", "mark 0 0 7", "mark 0 1 NONE", "lay 0 2 0", "mark 0 0 8", "mark 0 1 9", "lay 1 2 0", "sheet 0 0 0");
        e.due(7, x, "item 0 0");
        e.due(KIND, x, "item 0 1");
        e.due(INDEX, x, "item 0 2");
        e.due(8, x, "item 1 0");
        e.due(9, x, "item 1 1");
        Edges.answer(x, "sheet 0 -1 0");
        e.due(7, x, "item 0 0");
    }

    static void anyNumber(Edges e) {
        e.says("or a number. FINDINGS");
        int[] numbers = {Integer.MIN_VALUE, Integer.MAX_VALUE, 0, -1, BAD, NONE};
        for (int v : numbers) {
            DigFill x = Edges.made("lay 0 3 " + v);
            e.due(v % 100000, x, "rest 0 100000");
            e.due(v % 7, x, "rest 0 7");
            e.each(KIND, x, "ask 0 0", "item 0 0");
        }
    }

    static void findingNothing(Edges e) {
        e.says("NOTHING: a SHEET is MISSING, a SLOT holds nothing;");
        DigFill x = Edges.made("sheet 0 0 3", "sheet 0 -1 3", "lay 0 3 5", "lay 0 0 5");
        e.each(NOTHING, x, "mark 0 0 1", "pour 0", "reads 0", "dug 0 1", "copy 0 0 0 0 1", "lay 1 2 0", "ask 0 0", "item 0 0", "rest 0 1");
    }

    static void findingIndex(Edges e) {
        e.says("INDEX: there is no such place;");
        DigFill x = Edges.made("sheet 0 0 3", "sheet 1 1 0", "sheet 2 1 24", "lay 0 2 0", "lay 1 2 1", "lay 2 2 2");
        e.each(INDEX, x, "mark 0 3 1", "mark 0 -1 1", "mark 1 0 1", "mark 2 24 1", "mark 2 MIN 1", "mark 2 MAX 1");
        e.each(INDEX, x, "item 0 3", "item 0 -1", "item 1 0", "item 2 24", "item 2 MIN", "item 2 MAX");
        e.each(INDEX, x, "copy 0 3 0 0 1", "copy 0 0 0 3 1", "copy 1 0 1 0 1", "copy 2 24 2 0 1");
        e.each(0, x, "item 0 0", "item 0 2", "item 2 23");
    }

    static void findingSize(Edges e) {
        e.says("SIZE: a number of places is below 0;");
        DigFill x = Edges.made("sheet 0 0 2", "mark 0 1 5");
        e.each(SIZE, x, "sheet 0 0 -1", "sheet 0 1 -1", "sheet 0 0 -2", "sheet 0 1 MIN");
        isRow(e, x, 0, 0, 5);
        e.due(0, x, "sheet 0 0 0");
        e.due(0, x, "sheet 0 -1 -1");
    }

    static void findingKind(Edges e) {
        e.says("KIND: it is none (of a KIND, a number, or another thing).");
        DigFill x = Edges.made("hole 2 5 20 1", "sheet 0 0 2", "sheet 1 1 2", "mark 1 0 NONE", "lay 0 1 0", "lay 1 2 1", "lay 2 3 7");
        e.each(KIND, x, "as 0 1", "as 0 4", "ask 0 1", "ask 0 4"); // of a KIND
        e.each(KIND, x, "item 1 0", "mark 0 0 NONE"); // a number
        e.each(KIND, x, "ask 1 0", "ask 2 0", "item 0 0", "item 2 0", "rest 0 3", "rest 1 3", "copy 0 0 1 0 1"); // another thing
    }

    // ---- promises 31 to 39

    static void promise31(Edges e) {
        e.says("`int sheet(int sheet, int sort, int n)`: A SHEET becomes a row of n places of a sort, all 0 (sort -1: MISSING, n any): n (0). "
            + "BAD: sheet, sort, n above 24; SIZE.");
        e.bounds(0, 3, "sheet ? 0 24");
        e.bounds(-1, 1, "sheet 0 ? 24");
        for (int sort = 0; sort <= 1; sort++) {
            for (int n = 0; n <= 24; n++) {
                e.due(n, new DigFill(), "sheet 3 " + sort + " " + n);
            }
            e.each(BAD, new DigFill(), "sheet 3 " + sort + " 25", "sheet 3 " + sort + " MAX");
            e.each(SIZE, new DigFill(), "sheet 3 " + sort + " -1", "sheet 3 " + sort + " MIN");
        }
        for (String n : new String[] {"0", "24", "25", "-1", "MIN", "MAX"}) {
            DigFill x = Edges.made("sheet 0 0 3");
            e.due(0, x, "sheet 0 -1 " + n);
            e.due(NOTHING, x, "reads 0");
        }
        e.each(BAD, new DigFill(), "sheet 4 0 -1", "sheet 0 2 -1", "sheet -1 -1 0", "sheet 0 -2 25");
        // all 0 again, and no more places than are asked for
        DigFill y = new DigFill();
        row(y, 0, 1, 5, NONE, 7);
        e.due(2, y, "sheet 0 1 2");
        isRow(e, y, 0, 0, 0);
        e.due(3, y, "sheet 0 0 3");
        isRow(e, y, 0, 0, 0, 0);
    }

    static void promise32(Edges e) {
        e.says("`int mark(int sheet, int place, int v)`: A place of a SHEET becomes v (of shorts its lowest 16 bits; of floats v, "
            + "-99999 .. 99999; NONE: NO NUMBER): 1. BAD: sheet; NOTHING; INDEX; KIND: NONE in a row of shorts; BAD: v of floats.");
        e.bounds(0, 3, "mark ? 0 5", "sheet 0 0 1", "sheet 1 0 1", "sheet 2 0 1", "sheet 3 0 1");
        e.bounds(-99999, 99999, "mark 0 0 ?", "sheet 0 1 1");
        e.each(1, Edges.made("sheet 0 1 3"), "mark 0 0 -99999", "mark 0 2 99999", "mark 0 1 NONE");
        int[][] shorts = {
            {32767, 32767}, {32768, -32768}, {65535, -1}, {65536, 0}, {65537, 1}, {-1, -1}, {-32768, -32768}, {-32769, 32767},
            {-65536, 0}, {Integer.MIN_VALUE, 0}, {Integer.MAX_VALUE, -1}, {100000, 100000 - 131072}, {NONE - 1, 13818}, {NONE + 1, 13820}};
        for (int[] s : shorts) {
            DigFill x = Edges.made("sheet 0 0 3");
            e.due(1, x, "mark 0 1 " + s[0]);
            isRow(e, x, 0, 0, s[1], 0);
        }
        DigFill x = Edges.made("sheet 0 0 2", "sheet 1 1 2");
        e.each(BAD, x, "mark 4 0 1", "mark -1 9 NONE", "mark 1 0 100000", "mark 1 1 -100000", "mark 1 0 MIN", "mark 1 0 MAX", "mark 1 0 " + BAD);
        e.each(NOTHING, x, "mark 2 0 1", "mark 2 9 NONE", "mark 3 -1 100000");
        e.each(INDEX, x, "mark 0 2 1", "mark 0 -1 NONE", "mark 1 2 100000", "mark 1 MAX 1", "mark 0 MIN 1");
        e.each(KIND, x, "mark 0 0 NONE", "mark 0 1 NONE");
        isRow(e, x, 0, 0, 0);
        isRow(e, x, 1, 0, 0);
    }

    static void promise33(Edges e) {
        e.says("`int pour(int sheet)`: DEPTHS of HOLES, by numbers, become the places of a SHEET from 0 on (each held within 0 .. 99; "
            + "NO NUMBER, and beyond the SHEET: they stay): how many are otherwise then. BAD; NOTHING.");
        e.bounds(0, 3, "pour ?", "sheet 0 0 1", "sheet 1 0 1", "sheet 2 0 1", "sheet 3 0 1");
        int[][] held = {{-1, 0}, {0, 0}, {1, 1}, {98, 98}, {99, 99}, {100, 99}, {32767, 99}, {-32768, 0}};
        for (int[] h : held) {
            DigFill x = Edges.made("hole 0 5 50 0", "hole 0 5 50 0");
            row(x, 0, 0, h[0]);
            e.due(1, x, "pour 0");
            e.due(h[1], x, "told 0 2");
            e.due(50, x, "told 1 2");
            e.due(0, x, "pour 0");
        }
        DigFill x = Edges.made("hole 0 5 50 0", "hole 0 5 0 0", "hole 0 5 99 0");
        row(x, 1, 1, NONE, -99999, 99999, 7, 8);
        e.due(0, x, "pour 1"); // 0 and 99 are held so
        e.due(50, x, "told 0 2");
        e.due(3, x, "count 0");
        row(x, 1, 1);
        e.due(0, x, "pour 1");
        row(x, 1, 0, 50, 1, 98);
        e.due(2, x, "pour 1");
        e.due(NOTHING, x, "pour 0");
        e.due(0, Edges.made("sheet 0 0 24"), "pour 0");
        DigFill ten = Edges.made("deal 10", "sheet 0 0 24");
        e.due(10, ten, "pour 0");
        e.due(10, ten, "count 1");
        e.due(0, ten, "count 6");
    }

    static void promise34(Edges e) {
        e.says("`int reads(int sheet)`: The first place (of numbers alone) at which a SHEET is not DEPTH of that HOLE "
            + "(of places that are no HOLE all numbers are not). BAD; NOTHING; NONE: there is none.");
        e.bounds(0, 3, "reads ?", "sheet 0 0 1", "sheet 1 0 1", "sheet 2 0 1", "sheet 3 0 1");
        DigFill x = Edges.made("hole 0 5 50 0", "hole 0 5 0 0");
        e.due(NOTHING, x, "reads 0");
        int[][] rows = {{}, {50}, {50, 0}, {50, 0, 0}, {49}, {50, 1}, {51, 1}, {-50}};
        int[] due = {NONE, NONE, NONE, 2, 0, 1, 0, 0};
        for (int i = 0; i < rows.length; i++) {
            for (int sort = 0; sort <= 1; sort++) {
                row(x, 0, sort, rows[i]);
                e.due(due[i], x, "reads 0");
            }
        }
        row(x, 0, 1, NONE, NONE, NONE);
        e.due(NONE, x, "reads 0");
        row(x, 0, 1, NONE, 1, 5);
        e.due(1, x, "reads 0");
        row(x, 0, 1, NONE, NONE, NONE, 0);
        e.due(3, x, "reads 0");
        e.due(0, Edges.made("sheet 0 0 1"), "reads 0");
        e.due(NONE, Edges.made("sheet 0 0 0"), "reads 0");
        DigFill last = Edges.made("deal 10", "sheet 0 1 24", "mark 0 0 1");
        for (int p = 0; p < 24; p++) {
            last.mark(0, p, p == 23 ? 0 : NONE);
        }
        e.due(23, last, "reads 0");
    }

    static void promise35(Edges e) {
        e.says("`int copy(int from, int place, int to, int at, int many)`: So many places of a SHEET come to another one (or the same), as they were: many. "
            + "BAD; NOTHING; KIND: they are not of one sort; INDEX. (From a SHEET, its place, to a SHEET, its place.)");
        e.bounds(0, 3, "copy ? 0 0 0 1", "sheet 0 0 1", "sheet 1 0 1", "sheet 2 0 1", "sheet 3 0 1");
        e.bounds(0, 3, "copy 0 0 ? 0 1", "sheet 0 0 1", "sheet 1 0 1", "sheet 2 0 1", "sheet 3 0 1");
        DigFill x = new DigFill();
        row(x, 0, 0, 1, 2, 3);
        row(x, 1, 0, 7, 8);
        row(x, 2, 1, 4, NONE);
        // none at all, at the place behind the last one too
        e.each(0, x, "copy 0 0 1 0 0", "copy 0 3 1 2 0", "copy 2 2 2 2 0");
        e.each(INDEX, x, "copy 0 4 1 0 0", "copy 0 0 1 3 0", "copy 0 -1 1 0 0", "copy 0 0 1 -1 0", "copy 0 MAX 1 0 0", "copy 0 0 1 MIN 0");
        e.each(INDEX, x, "copy 0 2 1 0 2", "copy 0 0 1 1 2", "copy 0 0 1 0 3", "copy 0 3 1 0 1", "copy 0 0 1 2 1", "copy 0 0 0 1 3");
        e.each(INDEX, x, "copy 0 0 1 0 -1", "copy 0 0 1 0 MIN", "copy 0 0 1 0 MAX", "copy 0 1 1 0 MAX", "copy 0 MAX 1 0 MAX", "copy 0 0 1 MAX 1");
        e.each(KIND, x, "copy 0 0 2 0 1", "copy 2 0 1 0 1", "copy 2 9 1 0 1", "copy 0 0 2 0 -1");
        e.each(NOTHING, x, "copy 0 0 3 0 1", "copy 3 0 0 0 1", "copy 3 9 3 9 9", "copy 2 0 3 0 0");
        e.each(BAD, x, "copy 4 0 3 0 1", "copy 3 0 4 0 1", "copy -1 9 2 0 1", "copy 0 9 MAX 0 1");
        isRow(e, x, 0, 1, 2, 3);
        isRow(e, x, 1, 7, 8);
        isRow(e, x, 2, 4, NONE);
        e.due(2, x, "copy 0 1 1 0 2");
        isRow(e, x, 1, 2, 3);
    }

    static void copiesWithinARow(Edges e) {
        e.says("(or the same), as they were: many.");
        DigFill x = new DigFill();
        row(x, 0, 1, 1, NONE, 3, 4);
        e.due(3, x, "copy 0 0 0 1 3");
        isRow(e, x, 0, 1, 1, NONE, 3);
        e.due(3, x, "copy 0 1 0 0 3");
        isRow(e, x, 0, 1, NONE, 3, 3);
        e.due(4, x, "copy 0 0 0 0 4");
        isRow(e, x, 0, 1, NONE, 3, 3);
        DigFill y = Edges.made("sheet 0 0 24", "sheet 1 0 24", "mark 0 0 5", "mark 0 23 6");
        e.due(24, y, "copy 0 0 1 0 24");
        int[] places = new int[24];
        places[0] = 5;
        places[23] = 6;
        isRow(e, y, 1, places);
    }

    static void promise36(Edges e) {
        e.says("`int lay(int slot, int thing, int k)`: A SLOT holds: thing 0 nothing, 1 HOLE k, 2 SHEET k, 3 the number k: what it held (0 .. 3). "
            + "BAD: slot, thing, k; NOTHING: that SHEET is MISSING.");
        e.bounds(0, 4, "lay ? 0 0");
        e.bounds(0, 3, "lay 0 ? 0", "hole 0 5 5 5", "sheet 0 0 1");
        e.bounds(0, 0, "lay 0 1 ?", "hole 0 5 5 5");
        e.bounds(0, 9, "lay 0 1 ?", "deal 10");
        e.bounds(0, 3, "lay 0 2 ?", "sheet 0 0 0", "sheet 1 0 0", "sheet 2 0 0", "sheet 3 0 0");
        DigFill x = Edges.made("hole 0 5 5 5", "sheet 3 0 1");
        e.each(NOTHING, x, "lay 0 2 0", "lay 0 2 2");
        e.each(BAD, x, "lay 5 2 0", "lay 0 4 0", "lay 0 2 4", "lay 0 1 1");
        for (int was = 0; was <= 3; was++) {
            for (int thing = 0; thing <= 3; thing++) {
                DigFill y = Edges.made("hole 0 5 5 5", "sheet 0 0 1", "lay 4 " + was + " 0");
                e.due(was, y, "lay 4 " + thing + " 0");
                e.due(thing, y, "lay 4 0 0");
                e.due(0, y, "lay 4 0 0");
            }
        }
        e.each(0, new DigFill(), "lay 0 3 MIN", "lay 1 3 MAX", "lay 2 3 0", "lay 3 3 -1");
    }

    static void promise37(Edges e) {
        e.says("`int ask(int slot, int kind)`: WORTH (by its own KIND) of the HOLE in a SLOT, taken for one of a KIND (0 .. 5). "
            + "BAD; NOTHING; KIND: it is no HOLE, or not of that KIND, nor of one under it.");
        DigFill x = HolesTest.oneOfEach(12, 40, 6);
        int[] worths = {40, 46, 80, 92, 71, 12};
        int[] over = {0b000001, 0b000011, 0b000101, 0b001011, 0b010101, 0b100001};
        for (int h = 0; h <= 5; h++) {
            x.lay(0, 1, h);
            for (int kind = 0; kind <= 5; kind++) {
                e.due((over[h] >> kind & 1) == 1 ? worths[h] : KIND, x, "ask 0 " + kind);
            }
            e.each(BAD, x, "ask 0 6", "ask 0 -1", "ask 0 MIN", "ask 0 MAX");
        }
        e.each(BAD, x, "ask 5 0", "ask -1 0", "ask MIN 6", "ask MAX 0", "ask 1 6");
        e.each(NOTHING, x, "ask 1 0", "ask 4 5");
        Edges.answer(x, "lay 1 3 0");
        e.each(KIND, x, "ask 1 0", "ask 1 5");
        Edges.answer(x, "lay 1 0 0");
        e.due(NOTHING, x, "ask 1 0");
    }

    static void promise38(Edges e) {
        e.says("`int item(int slot, int place)`: A place of the SHEET in a SLOT. BAD: slot; NOTHING; KIND: it is no SHEET; INDEX; KIND: NO NUMBER.");
        DigFill x = Edges.made("hole 0 5 5 5", "sheet 0 1 24", "mark 0 0 -99999", "mark 0 1 NONE", "mark 0 23 99999", "lay 4 2 0", "lay 0 1 0", "lay 1 3 0");
        e.due(-99999, x, "item 4 0");
        e.due(KIND, x, "item 4 1");
        e.due(0, x, "item 4 2");
        e.due(99999, x, "item 4 23");
        e.each(INDEX, x, "item 4 24", "item 4 -1", "item 4 MIN", "item 4 MAX");
        e.each(KIND, x, "item 0 0", "item 0 24", "item 1 0", "item 1 -1");
        e.each(NOTHING, x, "item 2 0", "item 3 -1");
        e.each(BAD, x, "item 5 0", "item -1 0", "item MIN 99", "item MAX 0");
        row(x, 1, 0, -32768, 32767);
        Edges.answer(x, "lay 4 2 1");
        e.due(-32768, x, "item 4 0");
        e.due(32767, x, "item 4 1");
        e.due(INDEX, x, "item 4 2");
    }

    static void promise39(Edges e) {
        e.says("`int rest(int slot, int n)`: The rest of the number in a SLOT by n. BAD: slot; NOTHING; KIND: it is no number; NO: n is 0.");
        int min = Integer.MIN_VALUE;
        int max = Integer.MAX_VALUE;
        int[][] due = {
            {7, 4, 3}, {-7, 4, -3}, {7, -4, 3}, {-7, -4, -3}, {0, 1, 0}, {0, min, 0}, {min, -1, 0}, {min, 1, 0}, {min, max, -1}, {max, min, max},
            {min, min, 0}, {5, 0, NO}, {0, 0, NO}, {min, 0, NO}};
        for (int[] d : due) {
            DigFill x = Edges.made("lay 0 3 " + d[0]);
            e.due(d[2], x, "rest 0 " + d[1]);
        }
        DigFill x = Edges.made("hole 0 5 5 5", "sheet 0 0 1", "lay 0 1 0", "lay 1 2 0");
        e.each(KIND, x, "rest 0 0", "rest 0 1", "rest 1 0", "rest 1 1");
        e.each(NOTHING, x, "rest 2 0", "rest 4 1");
        e.each(BAD, x, "rest 5 0", "rest -1 1", "rest MIN 0", "rest MAX 1");
    }
}
