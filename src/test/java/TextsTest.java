/** Promises 26 to 30: feed, trim, text, textTold, why. */
final class TextsTest {
    private static final Due DUE = new Due("TextsTest");

    public static void main(String[] args) {
        promise26Feed();
        promise27Trim();
        promise28Numbers();
        promise28Faults();
        promise28OneByOne();
        promise28Depths();
        promise28Values();
        promise28ValuesAtTheEdges();
        promise28Bytes();
        promise28Full();
        promise29TextTold();
        promise30Why();
        DUE.end();
    }

    private static void promise26Feed() {
        DigFill x = new DigFill();
        for (int n = 12; n <= 96; n += 12) {
            DUE.is("feed: how many", n, x.feed(n, -n, 0));
        }
        DUE.is("feed: more than 96", DigFill.FULL, x.feed(0, 0, 0));
        DUE.is("feed: 96 stay", 96, x.count(11));
        x.trim(85);
        DUE.is("feed: 97 are too many", DigFill.FULL, x.feed(0, 0, 0));
        DUE.is("feed: 85 stay", 85, x.count(11));
        x.trim(84);
        DUE.is("feed: 96 again", 96, x.feed(0, 0, 0));
        x.trim(0);
        // "fine", "~ 12", "34*e": the highest byte of each number first
        DUE.is("feed: a new tape", 12, x.feed(0x66696e65, 0x20203132, 0x33342a65));
        DUE.is("feed: its bytes in order", 0, x.text());
        x.hole(0, 1, 2, 3);
        DUE.is("feed: 1234 times 2", 2468, x.fine(3));
    }

    private static void promise27Trim() {
        DigFill x = new DigFill();
        DUE.is("trim: nothing of nothing", 0, x.trim(0));
        DUE.is("trim: more than it has", DigFill.BAD, x.trim(1));
        Due.feed(x, "fine 1234567");
        DUE.is("trim: all", 12, x.trim(12));
        for (int n : new int[] {13, -1, 96, Integer.MIN_VALUE, Integer.MAX_VALUE}) {
            DUE.is("trim(" + n + ")", DigFill.BAD, x.trim(n));
        }
        DUE.is("trim: refused ones change nothing", 12, x.count(11));
        DUE.is("trim: its first ones", 8, x.trim(8));
        DUE.is("trim: eight", 8, x.count(11));
        DUE.is("trim: no further", DigFill.BAD, x.trim(9));
        DUE.is("trim: a text", 0, x.text());
        DUE.is("trim: of three digits", 123, x.fine(0));
        DUE.is("trim: used up", DigFill.BAD, x.trim(1));
    }

    private static void promise28Numbers() {
        DigFill x = new DigFill();
        for (int t = 0; t < 14; t++) {
            DUE.is("text: its number", t, Due.text(x, "law " + t));
            DUE.is("text: the tape is used up", 0, x.count(11));
            DUE.is("text: told ones", t + 1, x.count(9));
        }
        DigFill y = new DigFill();
        DUE.is("text: a fault", -104, Due.text(y, "law x"));
        DUE.is("text: the tape is used up by it", 0, y.count(11));
        DUE.is("text: none is told", 0, y.count(9));
        DUE.is("text: none counts", DigFill.NONE, y.why(0));
        DUE.is("text: of no bytes", -100, y.text());
    }

    /** Each text with the place of its fault: where the sign ~ stands in it (which is taken out). */
    private static void promise28Faults() {
        String[] faults = {
            "~", "   ~", "~maw 1", "~lettle 1", "~wine 1", "~laws 1", "~la 1", "~fin 1", "~lax 1", "~lawd", "~Law 1", "  ~settles 1", "~1", "~(law 1)", "law~", "law  ~", "law~1", "law ~x", "law ~a",
            "law ~e", "law ~l", "settle ~o", "settle ~e", "settle ~l", "fine ~d", "fine ~x", "fine ~a", "fine ~o", "law ~law", "law ~dd",
            "law ~do", "law d ~d", "law d ~o", "law 1 ~2", "law d~1", "law 1~d", "law ~12345", "law 1+~00001", "law d+~", "law d+ ~",
            "law d ~!", "law d~!d", "law d~(o)", "law (d~", "law (d~(", "law (d) ~)", "law d~)", "law (~)", "law ~)", "law ~+d",
            "law d+~+d", "law d-~-d", "law d*~/d", "law d|~|d", "law d&~&d", "law d&~|d", "law d<~=d", "law d=~=d", "law d<o~<d",
            "law d=o~=d", "law d<o~>d", "law d<o+1~=d", "law (d<o~<d)", "law d<(o<1)~<d", "law !~", "law !~&", "law !(~", "law ~-1",
            "law d~;", "law d~%2", "law d~.", "law ~D", "law d ~law 1", "law d~\t", "law\t", "settle ~xd", "fine e ~fine e", "law (d)~(d)",
            "law (d)~d", "law (d)~1", "law !d~!d", "law d~\n", "~;law d", "law d & ~", "law d | ~<", "law ((d)~", "law d=o&d=o~=d"};
        for (String marked : faults) {
            int at = marked.indexOf('~');
            at = at < 0 ? marked.indexOf('\t') : at;
            String text = marked.replace("~", "");
            DUE.is("text: " + marked, -100 - at, Due.text(new DigFill(), text));
        }
        String[] right = {
            "law d", " law  d ", "law(d)", "law!d", "law 1", "law 0000", "law 9999", "settle x+d-a*x/d", "fine e+l", "law d<(o=(1<2))",
            "law d<o&d>o|d=o", "law!!d", "law ( ( d ) )", "law d+!o", "law d*!(o)", "law 1+1<2*2&!3|4", "law d<o&d<o", "law(1<2)<(2<1)",
            "fine e  +  l", "law(d)+(o)", "settle(x<1)=(x<1)"};
        for (String text : right) {
            DUE.is("text: " + text, 0, Due.text(new DigFill(), text));
        }
    }

    /** What an act has read does not matter to the next one. */
    private static void promise28OneByOne() {
        DigFill x = new DigFill();
        String[] spoilt = {"fine x", "fine ((((((((", "fine !!!!!!!!", "fine (((((((((", "fine !!!!!!!!!", "fine 1+2*", "fine 7777 8888", "law", ""};
        for (String text : spoilt) {
            DUE.holds("text: a fault: " + text, Due.text(x, text) <= -100);
            DUE.is("text: behind " + text, x.count(9), Due.text(x, "fine !!!!!!!!((((((((0))))))))+6"));
            DUE.is("text: counts behind " + text, 6, x.fine(0));
            DUE.is("text: its pieces behind " + text, 2, x.textTold(x.count(9) - 1, 1));
        }
        DUE.is("text: a key by itself", -104, Due.text(x, "fine"));
        DUE.is("text: another key's names", x.count(9), Due.text(x, "settle a"));
    }

    private static void promise28Depths() {
        String eight = "((((((((";
        String shut = "))))))))";
        String nots = "!!!!!!!!";
        String both = "law " + "!(".repeat(8);
        DUE.is("text: eight open", 0, Due.text(new DigFill(), "law " + eight + "d" + shut));
        DUE.is("text: the ninth", -112, Due.text(new DigFill(), "law " + eight + "(d)" + shut));
        DUE.is("text: the ninth, not within others", 0, Due.text(new DigFill(), "law " + eight + "d" + shut + "+(d)"));
        DUE.is("text: the ninth, where one has been shut", 0, Due.text(new DigFill(), "law " + eight + "d)+(d)" + shut.substring(1)));
        DUE.is("text: the ninth again, where one has been shut", -116, Due.text(new DigFill(), "law " + eight + "d)+((d"));
        DUE.is("text: eight nots", 0, Due.text(new DigFill(), "law " + nots + "d"));
        DUE.is("text: the ninth not", -112, Due.text(new DigFill(), "law " + nots + "!d"));
        DUE.is("text: the ninth not, not within others", 0, Due.text(new DigFill(), "law " + nots + "d+!d"));
        DUE.is("text: the ninth not, in brackets within nots", -115, Due.text(new DigFill(), "law " + nots + "(1+!d)"));
        DUE.is("text: the eighth not, in brackets within nots", 0, Due.text(new DigFill(), "law !!!!!!!(!d+!d)*!d"));
        DUE.is("text: nots and brackets each by themselves", 0, Due.text(new DigFill(), both + "d" + shut));
        DUE.is("text: the ninth not behind eight of each", -120, Due.text(new DigFill(), both + "!"));
        DUE.is("text: the ninth bracket behind eight of each", -120, Due.text(new DigFill(), both + "("));
    }

    private static int value(String text) {
        DigFill x = new DigFill();
        x.hole(5, 1, 99, 2); // l is 17, OWES of 2 are 40 then
        x.dig(1, 17, 0, 5);
        x.set(0, 2, 40);
        DUE.is("text: fine " + text, 0, Due.text(x, "fine " + text));
        return x.fine(2);
    }

    private static void promise28Values() {
        int[] due = {
            0, 9999, 0, 2, 1, 7, 57, 23, 680, 2, -5, 14, 20, -7, 8, 1, 0, 1, 0, 0, 1, 0, 1, 1, 1, 0, 0, 0, 1, 1, 40, 1, 0, 1, 2, 1, 0, 1, 5, 0, 1, 1};
        String[] texts = {
            "0", "9999", "e>e", "2*(0|3)", "(0&1|3)", "0007", "e+l", "e-l", "e*l", "e/l", "0-e/8", "2+3*4", "(2+3)*4", "1-5-3", "16/4*2", "l<e", "e<l", "e>l", "l>e",
            "e<e", "e=40", "e=l", "1|0", "0|5", "7|5", "0|0", "7&0", "0&7", "7&5", "!0", "e", "!!e", "!e", "1|1&0", "!e+2", "1<2&2<3",
            "2<1|0&1", "1+1=2", "!0+4", "(1<2)<1", "3-3|e", "!(1=2)"};
        for (int i = 0; i < due.length; i++) {
            DUE.is("fine by " + texts[i], due[i], value(texts[i]));
        }
    }

    private static void promise28ValuesAtTheEdges() {
        DUE.is("/ is 0 by 0", 0, value("e/0"));
        DUE.is("/ is 0 by 0, and goes on", 3, value("3+e/(l-17)"));
        DUE.is("/ cuts towards 0", -2, value("(0-5)/2"));
        DUE.is("/ cuts towards 0", -2, value("5/(0-2)"));
        DUE.is("the least int", Integer.MIN_VALUE, value("2048*1024*1024"));
        DUE.is("the least int by -1", Integer.MIN_VALUE, value("2048*1024*1024/(0-1)"));
        DUE.is("ints wrap", Integer.MAX_VALUE, value("2048*1024*1024-1"));
        DUE.is("ints wrap", Integer.MIN_VALUE, value("2048*1024*1024-1+1"));
        DUE.is("ints wrap", 0, value("4096*1024*1024"));
        DUE.is("tests go by ints", 1, value("2048*1024*1024<0"));
        DUE.is("one test is the number itself", 12, value("(12)"));
        DUE.is("& of numbers below 0", 1, value("(0-1)&(0-2)"));
        StringBuilder sum = new StringBuilder("1");
        for (int i = 0; i < 45; i++) {
            sum.append("+1");
        }
        DUE.is("46 numbers, 96 bytes", 46, value(sum.toString()));
        DUE.is("right ones wait for others", 1 + 2 * (3 + 4 * (5 - 1)), value("1+2*(3+4*(5-1))"));
        DUE.is("levels", 1, value("0|1&1=1+0*5"));
        DUE.is("levels", 0, value("1*0+0=1&1|0"));
    }

    private static void promise28Bytes() {
        for (int b = 0; b < 256; b++) {
            DigFill x = new DigFill();
            x.feed(0x6c617720, 0x64000000 | b << 16, 0); // "law d" and the byte
            x.trim(6);
            boolean joint = "|&<=>+-*/".indexOf((char) b) >= 0;
            boolean letter = b >= 'a' && b <= 'z';
            int due = b == ' ' ? 0 : joint ? -106 : letter ? -104 : -105;
            DUE.is("text: byte " + b + " behind law d", due, x.text());
        }
    }

    private static void promise28Full() {
        DigFill x = new DigFill();
        for (int t = 0; t < 14; t++) {
            Due.text(x, "fine " + t);
        }
        DUE.is("text: the fifteenth", DigFill.FULL, Due.text(x, "fine 77"));
        DUE.is("text: the tape is used up by it", 0, x.count(11));
        DUE.is("text: a fault comes ahead of FULL", -105, Due.text(x, "fine x"));
        DUE.is("text: fourteen", 14, x.count(9));
        DUE.is("text: the last one counts", 13, x.fine(0));
    }

    private static void promise29TextTold() {
        DigFill x = new DigFill();
        String[] texts = {"law d", "settle x+d*a-12", "fine !(e<l)&1|e=e", "law (((7)))"};
        int[] keys = {0, 1, 2, 0};
        int[] pieces = {1, 4, 5, 1};
        for (int t = 0; t < texts.length; t++) {
            DUE.is("textTold: not yet", DigFill.BAD, x.textTold(t, 0));
            Due.text(x, texts[t]);
        }
        for (int t = 0; t < texts.length; t++) {
            DUE.is("textTold: key of " + texts[t], keys[t], x.textTold(t, 0));
            DUE.is("textTold: pieces of " + texts[t], pieces[t], x.textTold(t, 1));
            DUE.is("textTold: what", DigFill.BAD, x.textTold(t, 2));
        }
        for (int v : new int[] {-1, 4, 14, Integer.MIN_VALUE, Integer.MAX_VALUE}) {
            DUE.is("textTold: text " + v, DigFill.BAD, x.textTold(v, 0));
            DUE.is("textTold: what " + v, DigFill.BAD, x.textTold(0, v));
        }
    }

    private static void promise30Why() {
        DigFill x = new DigFill();
        String[] texts = {"fine 1", "law 2", "fine 3", "settle 4", "law 5", "law x"};
        int[][] counting = {{-1, -1, 0}, {1, -1, 0}, {1, -1, 2}, {1, 3, 2}, {4, 3, 2}, {4, 3, 2}};
        for (int t = 0; t < texts.length; t++) {
            Due.text(x, texts[t]);
            for (int key = 0; key < 3; key++) {
                int due = counting[t][key] < 0 ? DigFill.NONE : counting[t][key];
                DUE.is("why(" + key + ") behind " + texts[t], due, x.why(key));
            }
        }
        DUE.is("why: the last one gives it", 3, x.fine(0));
        for (int v : new int[] {-1, 3, Integer.MIN_VALUE, Integer.MAX_VALUE}) {
            DUE.is("why(" + v + ")", DigFill.BAD, x.why(v));
        }
    }
}
