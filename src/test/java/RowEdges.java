/** Boundary cases of THE IMAGE and THE DAYS TOLD, of promises 40 to 44, and of what holds for all calls. */
final class RowEdges {
    private static final int BAD = Edges.BAD, NO = Edges.NO, FULL = Edges.FULL, NONE = Edges.NONE;
    private static final int NOTHING = Edges.NOTHING, KIND = Edges.KIND, INDEX = Edges.INDEX, SIZE = Edges.SIZE;
    /** Each makes one more of those that {@link Lived} has some of, until there is no room. */
    private static final String[] TEN_HOLES = {"hole 0 5 50 1"};
    private static final String[] SIX_WANTS = {"want 1 1", "want 1 1", "want 1 1"};
    private static final String[] FULL_TAPE = {
        "feed 1 2 3", "feed 1 2 3", "feed 1 2 3", "feed 1 2 3", "feed 1 2 3", "feed 1 2 3"};

    // ---- what holds for all calls

    static void constants(Edges e) {
        e.says("public static final int BAD = -1000000001, NO = -1000000002, FULL = -1000000003, NONE = -1000000005, "
            + "NOTHING = -1000000011, KIND = -1000000012, INDEX = -1000000013, SIZE = -1000000014;");
        e.is("BAD", -1000000001, DigFill.BAD);
        e.is("NO", -1000000002, DigFill.NO);
        e.is("FULL", -1000000003, DigFill.FULL);
        e.is("NONE", -1000000005, DigFill.NONE);
        e.is("NOTHING", -1000000011, DigFill.NOTHING);
        e.is("KIND", -1000000012, DigFill.KIND);
        e.is("INDEX", -1000000013, DigFill.INDEX);
        e.is("SIZE", -1000000014, DigFill.SIZE);
    }

    static void fiveHundredAndTwelveCalls(Edges e) {
        e.says("An object is used for at most 512 calls after it has been made");
        DigFill x = new DigFill();
        for (int call = 1; call <= 511; call++) {
            e.due(call, x, "seed " + (call + 1));
        }
        e.due(512, x, "count 12");
        // of those that make most: with what feeds it a text is four calls, and back makes room for the next one
        DigFill y = Edges.made("keep");
        for (int call = 1; call < 511; call += 5) {
            e.due(0, y, "say fine " + call);
            e.due(0, y, "back");
        }
        e.due(0, y, "count 9");
        DigFill z = new DigFill();
        e.due(10, z, "deal 10");
        int paid = z.paid();
        for (int call = 3; call <= 512; call++) {
            e.due(paid, z, "paid");
        }
    }

    /** A refused call of each sort there is, on a program that has some of everything. */
    static void refusedOnesChangeNothing(Edges e) {
        e.says("and changes nothing (but the tape and the numbers that wait, where told).");
        String[] refused = {
            "hole 6 5 5 5", "hole 0 30 5 5", "hole 0 5 100 5", "hole 0 5 5 8", "told 9 0", "told 0 6", "as 9 0", "as 0 6", "as 7 1", "turns 9 0",
            "turns 0 6", "set 9 1 1", "set 0 0 1", "set 0 5 1", "set 0 1 30", "set 0 2 100", "set 0 3 8", "set 0 4 1000", "settles 9 0",
            "settles 0 10", "rule 0 30", "rule 1 49", "rule 1 201", "rule 2 60", "deal 0", "deal 11", "takes 30 1", "takes 0 100", "dig 30 1 0 0",
            "dig 5 100 0 0", "dig 5 1 9 0", "dig 5 1 0 8", "dig 5 99 7 0", "want 30 1", "want 1 0", "want 1 100", "dealing 5", "dealing -1",
            "adds 9", "frees 30", "days 0", "days 101", "behind 101 0", "behind 0 3", "best 31 0", "best 0 2", "owes 8", "dug 4 0", "dug 0 2",
            "dug 2 0", "fine 8", "trim -1", "trim 97", "textTold 9 0", "textTold 0 2", "why 3", "sheet 4 0 1", "sheet 0 2 1", "sheet 0 0 25",
            "sheet 0 0 -1", "sheet 0 1 MIN", "mark 4 0 1", "mark 2 0 1", "mark 0 5 1", "mark 0 0 NONE", "mark 1 0 100000", "pour 4", "pour 2",
            "reads 4", "reads 2", "copy 4 0 0 0 1", "copy 2 0 0 0 1", "copy 0 0 1 0 1", "copy 0 3 0 0 3", "copy 0 0 0 0 -1", "lay 5 0 0",
            "lay 0 4 0", "lay 0 1 9", "lay 1 2 4", "lay 1 2 2", "ask 0 6", "ask 4 0", "ask 0 5", "item 5 0", "item 4 0", "item 2 0", "item 1 9",
            "rest 5 1", "rest 4 1", "rest 0 1", "rest 2 0", "count 13", "count -1"};
        for (String call : refused) {
            e.holds(call + " is refused", Edges.answer(Lived.made(), call) <= BAD);
            Lived.changesNothing(e, call);
        }
    }

    static void fullOnesChangeNothing(Edges e) {
        e.says("changes nothing (but the tape and the numbers that wait");
        e.due(FULL, Lived.made(TEN_HOLES), "hole 0 1 1 1");
        Lived.changesNothing(e, "hole 0 1 1 1", TEN_HOLES);
        e.due(0, Lived.made(TEN_HOLES), "deal 5");
        Lived.changesNothing(e, "deal 5", TEN_HOLES);
        String[] unfilled = {"hole 0 5 50 1", "set 7 2 9", "set 9 2 50"};
        e.due(FULL, Lived.made(unfilled), "dig 5 5 9 0");
        Lived.changesNothing(e, "dig 5 5 9 0", unfilled);
        e.due(NO, Lived.made(unfilled), "dig 5 60 9 0");
        Lived.changesNothing(e, "dig 5 60 9 0", unfilled);
        e.due(FULL, Lived.made(SIX_WANTS), "want 1 1");
        Lived.changesNothing(e, "want 1 1", SIX_WANTS);
        e.due(FULL, Lived.made(FULL_TAPE), "feed 1 2 3");
        Lived.changesNothing(e, "feed 1 2 3", FULL_TAPE);
        String[] many = new String[56];
        java.util.Arrays.fill(many, "tell 5");
        e.due(FULL, Lived.made(many), "tell 6");
        Lived.changesNothing(e, "tell 6", many);
    }

    /** The tape is used up by a text that is refused, what waits by a check that is; all else stays. */
    static void whereTold(Edges e) {
        e.says("(but the tape and the numbers that wait, where told).");
        DigFill x = Lived.made("trim 0", "say fine x");
        e.due(0, x, "count 11");
        e.due(4, x, "count 10");
        e.due(4, x, "count 9");
        DigFill y = Lived.made("check 31");
        e.due(0, y, "count 10");
        e.due(13, y, "count 11");
        e.due(BAD, y, "check 0");
        DigFill z = Edges.made("tell 1", "check 1");
        e.due(0, z, "count 10");
    }

    /** Of each call: both are due, the one that stands first is answered. */
    static void theOneThatStandsFirst(Edges e) {
        e.says("A call that is refused answers one of BAD, NO, FULL, or a FINDING, of several the one that stands first with it");
        DigFill ten = Edges.made("deal 10", "hole 0 1 1 1", "turns 0 0", "set 0 1 5", "set 0 2 50");
        e.each(BAD, ten, "hole 6 1 1 1", "hole 0 30 1 1", "hole 0 1 100 1", "hole 0 1 1 8"); // and FULL
        e.each(BAD, ten, "dig 30 99 0 0", "dig 5 99 0 8", "dig 5 99 10 0"); // and NO
        e.due(NO, ten, "dig 5 99 0 0"); // and FULL
        DigFill six = Edges.made("want 1 1", "want 1 1", "want 1 1", "want 1 1", "want 1 1", "want 1 1");
        e.each(BAD, six, "want 30 1", "want 1 0", "want 1 100"); // and FULL
        DigFill x = new DigFill();
        e.due(BAD, x, "frees 30"); // and NONE
        e.each(BAD, x, "dug 4 0", "dug 0 2", "why 3"); // and NOTHING, NONE
        e.due(NOTHING, x, "dug 0 0"); // and NONE
        e.due(BAD, x, "check 0"); // and NO
        e.each(BAD, x, "sheet 4 0 -1", "sheet 0 2 -1"); // and SIZE
        e.each(BAD, x, "pour 4", "reads 4", "mark 4 0 1", "mark -1 99 NONE");
        e.each(NOTHING, x, "mark 0 99 1", "mark 0 0 NONE", "mark 0 0 100000", "reads 0"); // and INDEX, KIND, BAD, NONE
        e.each(BAD, x, "lay 5 2 0", "lay 0 4 0", "ask 0 6", "ask 5 6", "item 5 0", "rest 5 0"); // and NOTHING, NO
        e.each(NOTHING, x, "ask 0 5", "item 0 99", "rest 0 0"); // and KIND, INDEX, NO
        x = Edges.made("sheet 0 0 2", "sheet 1 1 2", "lay 0 3 7", "lay 1 2 1");
        e.each(INDEX, x, "mark 0 2 NONE", "mark 1 2 100000"); // and KIND, BAD
        e.each(BAD, x, "copy 4 0 2 0 1", "copy 2 0 4 0 1"); // and NOTHING
        e.each(NOTHING, x, "copy 2 0 0 9 1", "copy 0 9 2 0 1", "copy 1 0 3 0 9"); // and INDEX
        e.each(KIND, x, "copy 0 9 1 0 1", "copy 1 0 0 0 -1"); // and INDEX
        e.each(KIND, x, "item 0 99", "rest 1 0"); // and INDEX, NO
        DigFill texts = new DigFill();
        for (int t = 0; t < 14; t++) {
            Due.text(texts, "law 1");
        }
        e.due(-104, texts, "say law x"); // and FULL
    }

    static void noneWhereThereIsNone(Edges e) {
        e.says("NONE: there is none. Sets of HOLES");
        DigFill x = Edges.made("want 5 5", "sheet 0 0 0");
        e.each(NONE, x, "dealing 2", "why 0", "why 1", "why 2", "dug 0 0", "reads 0");
        Edges.answer(x, "hole 5 5 99 5");
        e.each(NONE, x, "frees 5", "paid");
    }

    // ---- the image, the days told

    static void imageKeepsAllButThose(Edges e) {
        e.says("AN IMAGE keeps all but SHEETS, SLOTS, numbers that wait, THE TAPE;");
        // the image is of two that have lived alike; one of them goes back to it
        DigFill x = Lived.made("trim 0", "keep");
        DigFill y = Lived.made("trim 0");
        String[] spoil = {
            "deal 10", "turns 0 5", "set 1 1 29", "set 2 2 99", "set 3 3 7", "set 4 4 999", "forget", "want 29 99", "rule 0 29", "rule 1 50",
            "say law 77", "say settle 9", "say fine 77", "days 50", "seed 5", "set 7 2 50", "turns 7 5", "dig 5 5 7 1"};
        for (String call : spoil) {
            Edges.answer(x, call);
        }
        e.due(9, x, "back");
        for (int what = 0; what <= 12; what++) {
            e.due(y.count(what), x, "count " + what);
        }
        for (int h = 0; h < 10; h++) {
            for (int what = 0; what <= 5; what++) {
                e.due(y.told(h, what), x, "told " + h + " " + what);
            }
        }
        for (int what = 0; what <= 7; what++) {
            e.due(y.dealing(what), x, "dealing " + what);
        }
        for (int key = 0; key <= 2; key++) {
            e.due(y.why(key), x, "why " + key);
        }
        for (int owner = 0; owner <= 7; owner++) {
            e.due(y.fine(owner), x, "fine " + owner);
        }
        e.due(y.behind(50, 1), x, "behind 50 1");
    }

    static void imageKeepsEachPart(Edges e) {
        e.says("AN IMAGE keeps all but");
        DigFill x = Edges.made("hole 1 29 99 7", "set 0 4 999", "want 29 99", "rule 0 29", "rule 1 50", "days 1", "dig 29 1 0 7", "say law 9", "seed -9", "keep");
        String[] spoil = {
            "turns 0 2", "set 0 1 0", "set 0 2 0", "set 0 3 0", "set 0 4 0", "forget", "want 0 1", "want 9 9", "rule 0 0", "rule 1 200", "days 100", "hole 5 0 99 0",
            "dig 0 9 2 0", "say law 1", "say fine 2", "seed 3"};
        for (String call : spoil) {
            Edges.answer(x, call);
        }
        e.due(2, x, "back");
        int depth = 99 - 1 - (Edges.lot(Edges.next(1)) % 10 < 5 ? 0 : 1);
        int[] parts = {1, 29, depth, 7, 999};
        for (int what = 0; what < parts.length; what++) {
            e.due(parts[what], x, "told 0 " + what);
        }
        int[] counts = {2, 0, 1, 1, depth + 1, 1, 99 - depth, 29, 50, 1, 0, 0, -9};
        for (int what = 0; what < counts.length; what++) {
            e.due(counts[what], x, "count " + what);
        }
        e.due(0, x, "dealing 2"); // 49 of EARTH from PLACE 29
        e.due(0, x, "dealing 1");
        e.due(0, Edges.made("want 29 99", "keep", "forget", "want 29 1", "back", "hole 5 29 98 0"), "dealing 0");
        e.due(0, x, "why 0");
        e.due(NONE, x, "why 2");
    }

    /** Ten HOLES, six WANTS, 14 TEXTS: the last of each is kept as well. */
    static void imageKeepsTheLastOfEach(Edges e) {
        e.says("AN IMAGE keeps all but SHEETS");
        DigFill x = Edges.made("rule 1 100", "deal 9", "hole 5 29 99 7", "set 9 4 999");
        for (int w = 0; w < 5; w++) {
            x.want(0, 1);
        }
        Edges.answer(x, "want 29 99");
        for (int t = 0; t < 14; t++) {
            Due.text(x, t == 13 ? "fine 13" : "law " + t);
        }
        e.due(10, x, "keep");
        String[] spoil = {"turns 9 0", "set 9 1 0", "set 9 2 0", "set 9 3 0", "set 9 4 0", "forget"};
        for (String call : spoil) {
            Edges.answer(x, call);
        }
        for (int w = 0; w < 6; w++) {
            x.want(0, 1);
        }
        e.due(10, x, "back");
        int[] parts = {5, 29, 99, 7, 999};
        for (int what = 0; what < parts.length; what++) {
            e.due(parts[what], x, "told 9 " + what);
        }
        e.due(9, x, "dealing 7"); // from PLACE 29, all of HOLE 9
        e.due(13, x, "why 2");
        e.due(12, x, "why 0");
        e.due(13, x, "fine 0");
        e.due(2, x, "textTold 13 0");
    }

    static void imageLeavesThoseAsTheyAre(Edges e) {
        e.says("all but SHEETS, SLOTS, numbers that wait, THE TAPE;");
        DigFill x = Edges.made("keep", "sheet 0 0 2", "mark 0 1 8", "lay 0 3 17", "tell 1", "tell 2", "feed 1 2 3", "back");
        e.due(2, x, "count 10");
        e.due(12, x, "count 11");
        e.due(17, x, "rest 0 99");
        e.due(0, x, "lay 1 2 0");
        e.due(8, x, "item 1 1");
        DigFill y = Edges.made("sheet 0 0 2", "lay 0 3 17", "tell 1", "feed 1 2 3", "keep", "sheet 0 -1 0", "lay 0 0 0", "tell 1", "trim 0", "back");
        e.due(2, y, "count 10");
        e.due(0, y, "count 11");
        e.each(NOTHING, y, "rest 0 99", "reads 0");
    }

    static void againAndAgain(Edges e) {
        e.says("all can become as it is (again and again).");
        DigFill x = Edges.made("deal 3", "keep");
        int depths = x.count(4);
        int z = x.count(12);
        for (int times = 0; times < 20; times++) {
            Edges.answer(x, "days 3");
            Edges.answer(x, "deal 2");
            Edges.answer(x, "say fine 1");
            e.due(3, x, "back");
            e.due(depths, x, "count 4");
            e.due(z, x, "count 12");
            e.due(0, x, "count 9");
        }
        Edges.answer(x, "deal 1");
        e.due(4, x, "keep");
        Edges.answer(x, "deal 1");
        e.due(4, x, "back");
        e.due(4, x, "back");
    }

    private static void tell(DigFill x, int... numbers) {
        for (int v : numbers) {
            x.tell(v);
        }
    }

    /** By 3 a day: 10, 5 and none. */
    private static DigFill kept() {
        return Edges.made("hole 0 1 10 0", "hole 0 1 5 0", "hole 0 1 0 0", "say settle 3", "keep");
    }

    static void daysToldBehindEach(Edges e) {
        e.says("THE DAYS TOLD: of n DAYS, one behind the other, by THE IMAGE: DEPTH of all HOLES, together; how many are FILLED, behind each.");
        DigFill x = kept();
        tell(x, 15, 1, 9, 1);
        e.due(1, x, "check 2"); // not ahead of the first DAY
        tell(x, 9, 1, 4, 2);
        e.due(0, x, "check 2");
        tell(x, 9, 1);
        e.due(0, x, "check 1");
        // by THE IMAGE, whatever has come since
        for (String call : new String[] {"days 40", "forget", "say settle 9", "seed 8", "deal 5"}) {
            Edges.answer(x, call);
        }
        tell(x, 9, 1, 4, 2, 1, 2, 0, 3, 0, 3);
        e.due(0, x, "check 5");
        DigFill none = Edges.made("keep", "deal 5");
        tell(none, 0, 0, 0, 0);
        e.due(0, none, "check 2");
    }

    // ---- promises 40 to 44

    static void promise40(Edges e) {
        e.says("`int tell(int v)`: One more number waits: how many. FULL: 60 wait.");
        DigFill x = new DigFill();
        for (int n = 1; n <= 60; n++) {
            e.due(n, x, n % 2 == 0 ? "tell MIN" : "tell MAX");
        }
        e.each(FULL, x, "tell 0", "tell 1");
        e.due(60, x, "count 10");
        Edges.answer(x, "check 1");
        e.due(1, x, "tell 0");
    }

    private static final String CHECK = "`int check(int n)`: The numbers that wait (none do then, whatever is answered) are THE DAYS TOLD of n "
        + "(1 .. 30; fewer, if THE DAY would be above 9999), two by two: 0; else 1 and how many stand right ahead of the first that is not "
        + "(or is missing, or one too many). BAD; NO: there is no IMAGE.";

    static void promise41(Edges e) {
        e.says(CHECK);
        e.bounds(1, 30, "check ?", "keep");
        e.each(NO, new DigFill(), "check 1", "check 30");
        e.each(BAD, new DigFill(), "check 0", "check 31");
    }

    static void noneWaitBehindACheck(Edges e) {
        e.says("The numbers that wait (none do then, whatever is answered)");
        DigFill x = kept();
        for (String call : new String[] {"check 1", "check 30", "check 0", "check 31", "check MIN", "check MAX"}) {
            tell(x, 9, 1);
            Edges.answer(x, call);
            e.due(0, x, "count 10");
        }
        DigFill y = Edges.made("tell 1");
        e.due(NO, y, "check 1");
        e.due(0, y, "count 10");
    }

    static void firstThatIsNot(Edges e) {
        e.says("two by two: 0; else 1 and how many stand right ahead of the first that is not");
        int[] due = {9, 1, 4, 2, 1, 2, 0, 3, 0, 3};
        DigFill x = kept();
        for (int at = 0; at < due.length; at++) {
            for (int wrong : new int[] {due[at] + 1, due[at] - 1, Integer.MIN_VALUE}) {
                int[] told = due.clone();
                told[at] = wrong;
                tell(x, told);
                e.due(1 + at, x, "check 5");
            }
        }
        tell(x, due);
        e.due(0, x, "check 5");
    }

    static void firstThatIsMissing(Edges e) {
        e.says("(or is missing,");
        int[] due = {9, 1, 4, 2, 1, 2, 0, 3, 0, 3};
        for (int many = 0; many < due.length; many++) {
            DigFill x = kept();
            tell(x, java.util.Arrays.copyOf(due, many));
            e.due(1 + many, x, "check 5");
            // nor do numbers count that waited before
            tell(x, due);
            e.due(0, x, "check 5");
            tell(x, java.util.Arrays.copyOf(due, many));
            e.due(1 + many, x, "check 5");
        }
        // sixty are due of 30 DAYS: with 59 the last is missing
        DigFill x = kept();
        tell(x, 9, 1, 4, 2, 1, 2);
        for (int n = 6; n < 59; n++) {
            x.tell(n % 2 == 0 ? 0 : 3);
        }
        e.due(60, x, "check 30");
    }

    static void oneTooMany(Edges e) {
        e.says("or one too many).");
        DigFill x = kept();
        tell(x, 9, 1, 4);
        e.due(3, x, "check 1");
        tell(x, 9, 1, 4, 2);
        e.due(3, x, "check 1");
        tell(x, 9, 1, 4, 2, 0);
        e.due(5, x, "check 2");
        tell(x, 9, 2, 4, 2);
        e.due(2, x, "check 1");
    }

    static void thirtyDaysAreSixtyNumbers(Edges e) {
        e.says("are THE DAYS TOLD of n (1 .. 30;");
        DigFill x = Edges.made("hole 0 1 90 0", "say settle 3", "keep");
        for (int day = 1; day <= 30; day++) {
            tell(x, 90 - 3 * day, day == 30 ? 1 : 0);
        }
        e.due(60, x, "count 10");
        e.due(0, x, "check 30");
        for (int day = 1; day <= 30; day++) {
            tell(x, 90 - 3 * day, 0);
        }
        e.due(60, x, "check 30");
        for (int day = 1; day <= 30; day++) {
            tell(x, 90 - 3 * day, day == 30 ? 1 : 0);
        }
        e.due(59, x, "check 29");
    }

    static void fewerAtTheLastDay(Edges e) {
        e.says("fewer, if THE DAY would be above 9999)");
        DigFill x = Edges.onDay(9997, "hole 3 1 8 0", "keep");
        tell(x, 8, 0, 8, 0);
        e.due(0, x, "check 30");
        tell(x, 8, 0, 8, 0);
        e.due(0, x, "check 2");
        tell(x, 8, 0, 8, 0, 8, 0);
        e.due(5, x, "check 3");
        tell(x, 8, 0);
        e.due(3, x, "check 30");
        // by THE IMAGE's DAY
        Edges.answer(x, "days 2");
        tell(x, 8, 0, 8, 0);
        e.due(0, x, "check 30");
        Edges.answer(x, "keep");
        e.due(0, x, "check 30");
        tell(x, 8);
        e.due(1, x, "check 1");
    }

    static void promise42(Edges e) {
        e.says("`int keep()`: AN IMAGE is kept: how many HOLES.");
        DigFill x = new DigFill();
        e.due(0, x, "keep");
        Edges.answer(x, "deal 10");
        e.due(0, x, "back");
        Edges.answer(x, "deal 10");
        e.due(10, x, "keep");
        e.due(10, x, "back");
    }

    static void promise43(Edges e) {
        e.says("`int back()`: All is as THE IMAGE: how many HOLES. NO: there is none.");
        DigFill x = Edges.made("deal 2");
        e.each(NO, x, "back", "back");
        e.due(2, x, "count 0");
        e.due(2, x, "keep");
        Edges.answer(x, "deal 8");
        e.due(2, x, "back");
        e.due(BAD, x, "told 2 0");
        DigFill none = Edges.made("keep", "deal 3");
        e.due(0, none, "back");
        e.due(0, none, "count 0");
    }

    static void promise44(Edges e) {
        e.says("`int count(int what)`: How many: 0 HOLES, 1 those FILLED, 2 WANTS, 3 THE DAY, 4 DEPTH of all, together, 5 LIFTED, 6 LOST, 7 MILE, 8 SWELL, "
            + "9 TEXTS, 10 numbers that wait, 11 bytes of THE TAPE, 12 z. BAD.");
        e.bounds(0, 12, "count ?");
        DigFill most = new DigFill();
        for (int i = 0; i < 10; i++) {
            most.hole(i % 6, 5, i == 9 ? 0 : 99, 1);
        }
        String[] then = {"want 1 1", "want 1 1", "want 1 1", "want 1 1", "want 1 1", "want 1 1", "rule 0 29", "rule 1 200", "seed -5"};
        for (String call : then) {
            Edges.answer(most, call);
        }
        for (int t = 0; t < 14; t++) {
            Due.text(most, "law 1");
        }
        for (int i = 0; i < 60; i++) {
            most.tell(1);
        }
        for (int i = 0; i < 8; i++) {
            most.feed(1, 2, 3);
        }
        int[] counts = {10, 1, 6, 0, 891, 0, 0, 29, 200, 14, 60, 96, -5};
        for (int what = 0; what <= 12; what++) {
            e.due(counts[what], most, "count " + what);
        }
    }
}
