/** Boundary cases of part 4, TEXTS, and of promises 26 to 30. */
final class TextEdges {
    private static final int BAD = Edges.BAD, FULL = Edges.FULL, NONE = Edges.NONE;

    private static void isText(Edges e, String... texts) {
        for (String text : texts) {
            e.is("text of " + text, 0, Due.text(new DigFill(), text));
        }
    }

    /** The sign @ stands ahead of the first byte of each FAULT, and is no part of the text. */
    private static void isFault(Edges e, String... marked) {
        for (String text : marked) {
            e.is("text of " + text, -100 - text.indexOf('@'), Due.text(new DigFill(), text.replace("@", "")));
        }
    }

    /** What the sum gives in a fine, where e is 40 and l is 17. */
    private static void gives(Edges e, int want, String... sums) {
        for (String sum : sums) {
            DigFill x = Edges.made("hole 5 1 99 2", "dig 1 17 0 5", "set 0 2 40");
            e.is("text of fine " + sum, 0, Due.text(x, "fine " + sum));
            e.is("fine " + sum, want, x.fine(2));
        }
    }

    // ---- the tape, and how many texts there are

    static void fourteenTexts(Edges e) {
        e.says("4 TEXTS, 14 at most, numbered from 0");
        DigFill x = new DigFill();
        for (int t = 0; t < 14; t++) {
            e.due(BAD, x, "textTold " + t + " 0");
            e.due(t, x, "say fine " + t);
        }
        e.due(FULL, x, "say fine 14");
        e.due(14, x, "count 9");
        e.due(2, x, "textTold 13 0");
        e.due(BAD, x, "textTold 14 0");
        e.due(13, x, "fine 0");
    }

    static void tapeOfNinetySixBytes(Edges e) {
        e.says("THE TAPE (96 bytes at most;");
        DigFill x = new DigFill();
        for (int n = 12; n <= 96; n += 12) {
            e.due(n, x, "feed 1 2 3");
        }
        e.due(FULL, x, "feed 1 2 3");
        e.due(96, x, "count 11");
        e.due(96, x, "trim 96");
        // all 96 of them count: the last one is a digit
        StringBuilder sum = new StringBuilder("fine 1");
        while (sum.length() < 96) {
            sum.append("+1");
        }
        e.is("a text of 96 bytes", 96, sum.length());
        DigFill y = new DigFill();
        e.is("a text of 96 bytes", 0, Due.text(y, sum.toString()));
        e.due(46, y, "fine 0");
        e.is("another one of 96 bytes", 1, Due.text(y, sum.toString().replace('+', '-')));
        e.due(-44, y, "fine 0");
    }

    static void usedUpByAText(Edges e) {
        e.says("an act that reads it uses it up");
        DigFill x = Edges.made("say law 1");
        e.due(0, x, "count 11");
        e.due(BAD, x, "trim 1");
        e.due(-100, x, "text");
        e.due(12, x, "feed 1 2 3");
    }

    static void usedUpByAFault(Edges e) {
        e.says("uses it up, whatever it answers)");
        DigFill x = new DigFill();
        String[] faults = {"lore 1", "law", "law x", "law 1 2", "law (((((((((1", "law !!!!!!!!!1", "law 12345", "law 1+"};
        for (String text : faults) {
            e.holds("a fault: " + text, Due.text(x, text) <= -100);
            e.due(0, x, "count 11");
            e.due(-100, x, "text");
            // nor is anything of it still open, or at hand
            e.is("a text behind " + text, x.count(9), Due.text(x, "fine !!!!!!!!((((((((" + x.count(9) + "))))))))"));
            e.due(1, x, "textTold " + (x.count(9) - 1) + " 1");
        }
    }

    static void usedUpWhenFull(Edges e) {
        e.says("(96 bytes at most; an act that reads it uses it up, whatever it answers)");
        DigFill x = new DigFill();
        for (int t = 0; t < 14; t++) {
            Due.text(x, "law 1");
        }
        e.due(FULL, x, "say law 1");
        e.due(0, x, "count 11");
        e.due(-105, x, "say law 1x");
        e.due(0, x, "count 11");
        e.due(-100, x, "text");
    }

    static void textsCanBeToldAgainBehindAnImage(Edges e) {
        e.says("14 at most, numbered from 0, from THE TAPE");
        DigFill x = Edges.made("say fine 1", "keep");
        for (int t = 1; t < 14; t++) {
            e.due(t, x, "say fine 2");
        }
        e.due(FULL, x, "say fine 3");
        x.back();
        e.due(1, x, "say fine 4");
        e.due(4, x, "fine 0");
    }

    // ---- what a text is

    static void keyAndThenE(Edges e) {
        e.says("KEY E.");
        isText(e, "law 1", "law(1)", "law!1");
        isFault(e, "law@", "law  @", "@1", "  @1", "law 1@(1)", "law 1 @law 1", "law @law 1");
    }

    static void threeKeys(Edges e) {
        e.says("KEY: law | settle | fine.");
        isText(e, "law 1", "settle 1", "fine 1");
        isFault(e, "@maw 1", "@nettle 1", "@wine 1", "@low 1", "@la 1", "@laws 1", "@lax 1", "@l 1", "@settl 1", "@settles 1", "@fin 1", "@fines 1", "@Law 1", "@LAW 1", "@d 1", "@x",
            "@12 1", "law@1", "@lawfine 1", "@what 1");
    }

    static void loosestFirst(Edges e) {
        e.says("E, the loosest first:");
        gives(e, 1, "1|0&0", "0&0|1", "1|1=0", "2&1<2", "1=0+1", "5-4=1", "1<2*3", "!0*1=1");
        gives(e, 0, "0&1|0", "0&(0|1)", "(1|0)&0", "1<1|0", "(1|1)=0", "2=1+2");
        gives(e, 7, "1+2*3", "10-6/2", "!0+2*3");
        gives(e, 9, "(1+2)*3");
        gives(e, 2, "(10-6)/2", "4/(1+1)", "!(0+2)*3+2");
        gives(e, -4, "!0*3-7");
    }

    static void orsOfAnds(Edges e) {
        e.says("OR: AND { | AND }");
        isText(e, "fine 1", "fine 1|0", "fine 1|0|0|0|0|0", "fine 1&1|1&1");
        isFault(e, "fine @|1", "fine 1|@", "fine 1|@|1", "fine 1|@&1", "fine 1|@)");
        gives(e, 0, "0|0", "0|0|0");
        gives(e, 1, "0|1", "1|0", "1|1", "0|0|7", "1|1&0", "0&1|1", "0&0|1|0");
        gives(e, 7, "7");
    }

    static void andsOfTests(Edges e) {
        e.says("AND: TEST { & TEST }");
        isText(e, "fine 1", "fine 1&0", "fine 1&0&0&0&0&0", "fine 1<2&2<3");
        isFault(e, "fine @&1", "fine 1&@", "fine 1&@&1", "fine 1&@|1");
        gives(e, 0, "0&0", "0&1", "1&0", "1&1&0", "1<2&2<2");
        gives(e, 1, "1&1", "7&9", "1&1&1", "1<2&2<3", "2=2&2");
    }

    static void oneComparisonATest(Edges e) {
        e.says("TEST: SUM [ (< | = | >) SUM ]");
        isText(e, "fine 1", "fine 1<2", "fine 1=2", "fine 1>2", "fine 1<2&1<2", "fine (1<2)<2", "fine 1<(2<3)", "fine !(1<2)<1");
        isFault(e, "fine @<1", "fine 1<@", "fine 1<2@<3", "fine 1=2@=3", "fine 1>2@<3", "fine 1<2+3@>4", "fine 1<@=2", "fine (1<2@<3)",
            "fine 1&2<3@<4", "fine 1<@<2");
        gives(e, 1, "1<2", "2=2", "3>2", "1+1<3", "3>1+1", "2*2=4", "0-1<0");
        gives(e, 0, "2<2", "3<2", "1=2", "2>2", "1>2", "1+2<3");
    }

    static void sumsFromTheLeft(Edges e) {
        e.says("SUM: TERM { (+ | -) TERM }");
        isText(e, "fine 1", "fine 1+2-3+4-5");
        isFault(e, "fine @+1", "fine @-1", "fine 1+@", "fine 1-@", "fine 1+@+1", "fine 1-@-1", "fine (@-1)", "fine 1*@-1");
        gives(e, -4, "1-5");
        gives(e, -7, "1-5-3");
        gives(e, 3, "5-3+1");
        gives(e, 14, "2+3*4");
        gives(e, 10, "2*3+4");
    }

    static void termsFromTheLeft(Edges e) {
        e.says("TERM: PIECE { (* | /) PIECE }");
        isText(e, "fine 1", "fine 1*2/3*4/5");
        isFault(e, "fine @*1", "fine @/1", "fine 1*@", "fine 1/@", "fine 1*@*1", "fine 1/@/1");
        gives(e, 2, "16/4/2");
        gives(e, 8, "16/4*2");
        gives(e, 6, "7*4/4-1");
        gives(e, 4, "7/4*4");
    }

    static void numbersOfOneToFourDigits(Edges e) {
        e.says("PIECE: NUMBER (1 to 4 digits)");
        gives(e, 0, "0", "00", "000", "0000");
        gives(e, 9, "9", "0009");
        gives(e, 10, "10");
        gives(e, 999, "999", "0999");
        gives(e, 1000, "1000");
        gives(e, 9999, "9999");
        isFault(e, "fine @00000", "fine @10000", "fine @99999", "fine @00001", "fine 1+@12345", "fine @" + "1".repeat(91));
    }

    static void pieces(Edges e) {
        e.says("NUMBER (1 to 4 digits) | NAME | ! PIECE | ( E ).");
        gives(e, 1, "!0", "!!9", "!(1<0)");
        gives(e, 0, "!9", "!!0", "!e", "!(1|0)");
        gives(e, 3, "!0+2", "!0*3");
        gives(e, 40, "e", "(e)", "((((((((e))))))))");
        isFault(e, "fine !@", "fine (@", "fine (@)", "fine (1@", "fine @)", "fine 1@)", "fine (1)@)", "fine !@)",
            "fine !@+1", "fine 1@!", "fine 1@(2)", "fine (1)@(2)", "fine (1)@2", "fine (1)@e");
    }

    static void namesOfEachKey(Edges e) {
        e.says("NAMES, each one letter: of law d DEPTH, o OWNER; of settle x, d DEPTH, a AGE; of fine e OWES of the OWNER, l LIFTED");
        String[] keys = {"law", "settle", "fine"};
        String[] names = {"do", "xda", "el"};
        for (int key = 0; key < 3; key++) {
            for (char c = 'a'; c <= 'z'; c++) {
                boolean isName = names[key].indexOf(c) >= 0;
                String text = keys[key] + " " + c;
                e.is("text of " + text, isName ? 0 : -100 - keys[key].length() - 1, Due.text(new DigFill(), text));
            }
            char name = names[key].charAt(0);
            isFault(e, keys[key] + " @" + name + name, keys[key] + " @" + names[key], keys[key] + " " + name + " @" + name,
                keys[key] + " @" + Character.toUpperCase(name));
        }
    }

    static void namesOfALaw(Edges e) {
        e.says("of law d DEPTH, o OWNER;");
        DigFill x = Edges.made("hole 1 5 50 7", "say law d", "set 0 4 49");
        e.due(0, x, "takes 5 1");
        x.set(0, 4, 50);
        e.due(1, x, "takes 5 1");
        Due.text(x, "law o");
        x.set(0, 4, 6);
        e.due(0, x, "takes 5 1");
        x.set(0, 4, 7);
        e.due(1, x, "takes 5 1");
    }

    static void namesOfASettle(Edges e) {
        e.says("of settle x, d DEPTH, a AGE;");
        DigFill x = Edges.made("hole 0 5 6 0", "set 0 4 4", "say settle x");
        e.due(9, x, "settles 0 9");
        e.due(0, x, "settles 0 0");
        Due.text(x, "settle d");
        e.due(6, x, "settles 0 9");
        Due.text(x, "settle a");
        e.due(4, x, "settles 0 9");
        x.set(0, 4, 999);
        e.due(9, x, "settles 0 9");
        Due.text(x, "settle a-998");
        e.due(1, x, "settles 0 9");
    }

    static void namesOfAFine(Edges e) {
        e.says("of fine e OWES of the OWNER, l LIFTED");
        DigFill x = Edges.made("rule 1 100", "hole 5 5 99 2", "dig 5 9 0 3", "say fine e");
        e.due(90, x, "fine 2");
        e.due(9, x, "fine 3");
        e.due(0, x, "fine 7");
        Due.text(x, "fine l");
        e.each(9, x, "fine 0", "fine 7");
    }

    static void fineWithoutText(Edges e) {
        e.says("(what fine gives for an OWNER is told by fine(); without a TEXT: OWES)");
        DigFill x = Edges.made("hole 0 5 99 7", "hole 0 5 99 7", "say law 1", "say settle 1");
        e.due(198, x, "fine 7");
        e.due(0, x, "fine 0");
        Due.text(x, "fine 0");
        e.due(0, x, "fine 7");
    }

    // ---- words, signs and blanks

    static void wordsAsLongAsTheyGo(Edges e) {
        e.says("A word is a row of letters a .. z, or of digits, as long as it goes;");
        isText(e, "fine 1234", "law d", "settle a");
        isFault(e, "@lawd", "@lawz 1", "@alaw 1", "@settlefine 1", "fine @ee", "fine @el", "fine @az", "fine @za", "fine @12340", "fine @09876",
            "fine 1@e", "fine e@1", "fine 1234@e", "law@0 1", "law@9");
    }

    static void anyOtherByteIsASign(Edges e) {
        e.says("any other byte is a sign by itself.");
        String joints = "|&<=>+-*/";
        for (int b = 0; b < 256; b++) {
            DigFill x = new DigFill();
            x.feed(0x66696e65, 0x20650000 | b << 8 | '1', 0); // "fine e", the byte, "1"
            x.trim(8);
            boolean letter = b >= 'a' && b <= 'z';
            boolean digit = b >= '0' && b <= '9';
            // behind a blank the 1 is one word too many
            int due = joints.indexOf(b) >= 0 ? 0 : letter ? -105 : b == ' ' ? -107 : -106;
            e.is("text of fine e, byte " + b + (digit ? ", a digit" : ""), due, x.text());
            DigFill y = new DigFill();
            y.feed(0x6c617700 | b, 0x64000000, 0); // "law", the byte, "d"
            y.trim(5);
            // a ( is open at the end
            due = letter ? -100 : b == ' ' || b == '!' ? 0 : b == '(' ? -105 : -103;
            e.is("text of law, byte " + b + ", d", due, y.text());
        }
    }

    static void signsByThemselves(Edges e) {
        e.says("as long as it goes; any other byte is a sign by itself.");
        isText(e, "fine!!1", "fine((1))", "fine 1+(1)");
        isFault(e, "fine 1<@=2", "fine 1&@&2", "fine 1|@|2", "fine 1+@+2", "fine @==1", "fine 1=@=1", "fine 1>@=1");
    }

    static void blanksBetween(Edges e) {
        e.says("Between words and signs, and at the ends, there may be blanks (byte 32);");
        isText(e, "  fine 1", "fine 1  ", "   fine    ( 1   +  e )   ", "fine ! ! 1", "fine(1+e)", "fine !1<e&!e|0");
        isFault(e, "@la w 1", "fine 1 @2", "fine 12 @34", "fine e @e", "@f ine 1", "@\tfine 1", "fine@\t1", "fine 1@\t", "fine 1@\n", "fine@\0 1",
            "fine 1@\u00a0", "@\rfine 1");
    }

    static void blanksAlone(Edges e) {
        e.says("and at the ends, there may be blanks (byte 32);");
        isFault(e, "@", " @", "   @", " ".repeat(96) + "@");
    }

    static void aWordBehindAWordNeedsABlank(Edges e) {
        e.says("a word right behind another one needs one.");
        isFault(e, "law@1", "law@12345", "settle@9", "fine@0", "law 1@d", "law d@1");
        isText(e, "law 1", "law  1", "law(1)", "law d+1", "law!1");
        // one that needs no blank, as signs stand between
        gives(e, 41, "1+e", "e+1", "(1)+(e)");
    }

    // ---- the fault

    static void faultsByPlace(Edges e) {
        e.says("FAULT: the first byte of the first word or sign with which no TEXT goes on");
        isFault(e, "@?", "   @?", "law @x", "law    @x", "law d  @d", "law d +  @law", "law d+(o-@e)", "settle @xx", "fine e@?",
            "law 1+@oo+1+?");
        // at the first and at the last of 96 bytes
        String long1 = "fine 1" + "+1".repeat(45);
        e.is("a fault at byte 0", -100, Due.text(new DigFill(), "?" + long1.substring(1)));
        e.is("a fault at byte 95", -195, Due.text(new DigFill(), long1.substring(0, 95) + "?"));
        e.is("a fault at byte 95", -195, Due.text(new DigFill(), long1.substring(0, 95) + "x"));
        e.is("a fault at byte 95", -195, Due.text(new DigFill(), long1.substring(0, 95) + ")"));
    }

    static void faultOfAWordWithoutABlank(Edges e) {
        e.says("(a word that needs a blank ahead of it,");
        isFault(e, "law@1", "fine@1234", "settle@5 x", "law@1+?");
    }

    static void faultOfTooManyDigits(Edges e) {
        e.says("a NUMBER of more than 4 digits,");
        isFault(e, "law @12345", "law d+@00000", "law (@99999)", "law 1234+@12341234", "law !@10000");
        isText(e, "law 1234", "law d+0000", "law (9999)");
    }

    static void faultOfTheNinthBracket(Edges e) {
        e.says("the ninth ( that would be open within others,");
        String eight = "((((((((";
        String shut = "))))))))";
        isText(e, "law " + eight + "1" + shut, "law " + eight + "1" + shut + "+" + eight + "1" + shut, "law (1)+(1)+(1)+(1)+(1)+(1)+(1)+(1)+(1)+(1)",
            "law " + eight + "1)+(1)+(1)" + shut.substring(1));
        isFault(e, "law " + eight + "@(1" + shut + ")", "law " + eight + "@(", "law " + eight + "1+@(1)", "law " + eight + "1)+(@(1",
            "law " + eight + " @(", "law !" + eight + "@(", "law " + eight + "!@(");
    }

    static void faultOfTheNinthNot(Edges e) {
        e.says("the ninth ! likewise");
        String eight = "!!!!!!!!";
        isText(e, "law " + eight + "1", "law " + eight + "1+" + eight + "1", "law !1+!1+!1+!1+!1+!1+!1+!1+!1+!1", "law !!!!!!!(!1+!1)+!1",
            "law ! ! ! ! ! ! ! !1");
        isFault(e, "law " + eight + "@!1", "law " + eight + "@!", "law " + eight + "(@!1)", "law " + eight + "(1+@!1)", "law !!!!!!!(!1+!@!1)",
            "law " + eight + " @!1");
    }

    static void faultOfBracketsAndNotsEachByItself(Edges e) {
        e.says("each by itself);");
        String both = "!(!(!(!(!(!(!(!(";
        isText(e, "law " + both + "1))))))))", "law !!!!!!!!((((((((1))))))))", "law ((((((((!!!!!!!!1))))))))");
        isFault(e, "law " + both + "@!1", "law " + both + "@(1", "law !!!!!!!!((((((((@!", "law !!!!!!!!((((((((@(");
    }

    static void faultAtTheEnd(Edges e) {
        e.says("the end (the place behind the last byte), if it comes too soon.");
        isFault(e, "@", "law@", "law @", "law    @", "law 1+@", "law 1+  @", "law (1@", "law (1 @", "law !@", "law 1<@", "law ((1)@",
            "fine 1" + "+1".repeat(44) + "+ @", "fine 1" + "+1".repeat(44) + " +@");
        isFault(e, "@la", "@settl", "@f"); // these are words that do not go on
    }

    // ---- what a text gives

    static void intsWrap(Edges e) {
        e.says("Ints wrap;");
        gives(e, Integer.MIN_VALUE, "2048*1024*1024", "2048*1024*1024-1+1", "0-2048*1024*1024");
        gives(e, Integer.MAX_VALUE, "2048*1024*1024-1", "0-2048*1024*1024-1");
        gives(e, 0, "4096*1024*1024", "2048*1024*1024+2048*1024*1024");
        gives(e, 9999 * 9999 * 9999, "9999*9999*9999");
        gives(e, 1, "2048*1024*1024<0", "2048*1024*1024-1>0", "2048*1024*1024<1", "1>2048*1024*1024", "2048*1024*1024<2048*1024*1024-1");
        gives(e, Integer.MIN_VALUE, "2048*1024*1024/(0-1)");
    }

    static void divisionByNoneIsNone(Edges e) {
        e.says("/ is 0 by 0;");
        gives(e, 0, "0/0", "1/0", "9999/0", "(0-1)/0", "e/(e-e)", "2048*1024*1024/0", "1/0/0", "1/0*5");
        gives(e, 5, "5+1/0");
        gives(e, 1, "1/0=0", "1/1");
    }

    static void divisionCuts(Edges e) {
        e.says("All numbers are whole; / cuts towards 0.");
        gives(e, 0, "0/5", "4/5", "(0-4)/5", "4/(0-5)");
        gives(e, 1, "5/5", "9/5", "(0-9)/(0-5)");
        gives(e, -1, "(0-5)/5", "(0-9)/5", "9/(0-5)");
        gives(e, -2, "(0-7)/3");
        // EARTH, SETTLES and rests are whole as well
        e.due(1, Edges.made("rule 1 199", "hole 5 5 1 5"), "takes 5 1");
        e.due(-3, Edges.made("lay 0 3 -7"), "rest 0 4");
    }

    static void testsGiveOneOrNone(Edges e) {
        e.says("tests, & | ! give 1 or 0");
        gives(e, 1, "5<9", "9=9", "9>5", "7&7", "7|0", "0|9", "!0", "!!7");
        gives(e, 0, "9<5", "9=5", "5>9", "7&0", "0|0", "!7");
        gives(e, 9, "9", "(9)");
        gives(e, 2, "(5<9)+(9>5)", "!0+!0");
    }

    static void whatIsNotNoneIsTrue(Edges e) {
        e.says("(what is not 0 is true; both sides are worked out).");
        gives(e, 1, "(0-1)|0", "0|(0-1)", "(0-1)&1", "1&(0-9)", "2048*1024*1024|0", "2048*1024*1024&1", "2&4", "1|1/0", "0&1/0|1");
        gives(e, 0, "!(0-1)", "!(2048*1024*1024)", "0&(0-1)", "0&1/0");
    }

    static void theLastOneCounts(Edges e) {
        e.says("Of a KEY that TEXT counts that was told last.");
        DigFill x = Edges.made("hole 0 5 50 5", "say fine 1", "say settle 2", "say fine 3", "say law 9");
        e.due(3, x, "fine 0");
        e.due(2, x, "settles 0 0");
        Due.text(x, "fine x");
        e.due(3, x, "fine 0");
        for (int t = 4; t < 14; t++) {
            Due.text(x, "fine " + t);
        }
        e.due(13, x, "fine 0");
        e.due(FULL, x, "say fine 99");
        e.due(13, x, "fine 0");
        e.due(13, x, "why 2");
    }

    // ---- promises 26 to 30

    static void promise26(Edges e) {
        e.says("`int feed(int a, int b, int c)`: Twelve bytes come to THE TAPE, the highest of each number first: how many it has. FULL: it would have more than 96.");
        DigFill x = new DigFill();
        // "fine 97-e/1 ": each byte has its place
        e.due(12, x, "feed " + 0x66696e65 + " " + 0x2039372d + " " + 0x652f3120);
        e.due(0, x, "text");
        e.due(97, x, "fine 0");
        DigFill y = Edges.made("feed -1 MIN MAX");
        e.due(-100, y, "text");
        for (int held = 0; held <= 96; held++) {
            DigFill z = new DigFill();
            for (int i = 0; i < 8; i++) {
                z.feed(0, 0, 0);
            }
            z.trim(held);
            e.due(held <= 84 ? held + 12 : FULL, z, "feed 0 0 0");
            e.due(held <= 84 ? held + 12 : held, z, "count 11");
        }
    }

    static void promise27(Edges e) {
        e.says("`int trim(int n)`: THE TAPE keeps its first n bytes: n. BAD.");
        e.bounds(0, 0, "trim ?");
        e.bounds(0, 12, "trim ?", "feed 1 2 3");
        DigFill x = new DigFill();
        Due.feed(x, "fine 1234");
        e.due(8, x, "trim 8");
        e.each(BAD, x, "trim 9", "trim 12", "trim 96", "trim -1");
        e.due(8, x, "count 11");
        e.due(0, x, "text");
        e.due(123, x, "fine 0");
        DigFill full = Edges.made("feed 1 2 3", "feed 1 2 3", "feed 1 2 3", "feed 1 2 3", "feed 1 2 3", "feed 1 2 3", "feed 1 2 3", "feed 1 2 3");
        e.each(BAD, full, "trim 97");
        e.due(96, full, "trim 96");
        e.due(0, full, "trim 0");
        e.due(-100, full, "text");
    }

    static void promise28(Edges e) {
        e.says("`int text()`: THE TAPE is a TEXT: its number. -100 less the place of its FAULT; FULL.");
        DigFill x = new DigFill();
        e.due(-100, x, "text");
        for (int t = 0; t < 14; t++) {
            e.due(t, x, "say settle 9");
        }
        e.due(FULL, x, "say settle 9");
        e.due(-107, x, "say settle ");
        e.due(-106, x, "say settle");
        e.due(-100, x, "text");
    }

    static void promise29(Edges e) {
        e.says("`int textTold(int text, int what)`: Of a TEXT: what 0 KEY (0 law, 1 settle, 2 fine), 1 how many NUMBERS and NAMES it has. BAD.");
        e.bounds(0, 1, "textTold 0 ?", "say law 1");
        e.bounds(0, 1, "textTold ? 0", "say law 1", "say law 1");
        e.due(BAD, new DigFill(), "textTold 0 0");
        DigFill x = Edges.made("say law 1", "say settle (((x)))+!!d*1/a", "say fine 1" + "+1".repeat(45));
        int[][] due = {{0, 1}, {1, 4}, {2, 46}};
        for (int t = 0; t < 3; t++) {
            e.due(due[t][0], x, "textTold " + t + " 0");
            e.due(due[t][1], x, "textTold " + t + " 1");
        }
        e.due(BAD, x, "textTold 3 0");
    }

    static void promise30(Edges e) {
        e.says("`int why(int key)`: The TEXT that counts for a KEY. BAD; NONE.");
        e.bounds(0, 2, "why ?", "say law 1", "say settle 1", "say fine 1");
        DigFill x = new DigFill();
        e.each(NONE, x, "why 0", "why 1", "why 2");
        e.each(BAD, x, "why 3", "why -1");
        Due.text(x, "law 1 1");
        e.due(NONE, x, "why 0");
        Due.text(x, "fine 1");
        e.due(0, x, "why 2");
        e.each(NONE, x, "why 0", "why 1");
    }
}
