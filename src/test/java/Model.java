import java.util.ArrayList;
import java.util.Arrays;
import java.util.List;

/**
 * The document once more, worked out in other ways than the program does (by trying all, by splitting
 * texts, by copies), so that the two are hardly wrong at the same place. Slow, and for tests alone.
 */
final class Model {
    static final int BAD = -1000000001, NO = -1000000002, FULL = -1000000003, NONE = -1000000005;
    static final int NOTHING = -1000000011, KIND = -1000000012, INDEX = -1000000013, SIZE = -1000000014;
    private static final String[] KEYS = {"law", "settle", "fine"};
    private static final String[] NAMES = {"do", "xda", "el"};
    private static final List<String> LEVELS = List.of("|", "&", "<=>", "+-", "*/");

    /** What an image keeps. A hole is {kind, place, depth, owner, age}. */
    static final class State {
        List<int[]> holes = new ArrayList<>();
        List<int[]> wants = new ArrayList<>();
        List<List<String>> texts = new ArrayList<>();
        int mile = 10, swell = 120, day, lifted, lost, z = 1;

        State copied() {
            State s = new State();
            for (int[] h : holes) {
                s.holes.add(h.clone());
            }
            s.wants.addAll(wants);
            s.texts.addAll(texts);
            s.mile = mile;
            s.swell = swell;
            s.day = day;
            s.lifted = lifted;
            s.lost = lost;
            s.z = z;
            return s;
        }

        int depths() {
            return holes.stream().mapToInt(h -> h[2]).sum();
        }

        int filled() {
            return (int) holes.stream().filter(h -> h[2] == 0).count();
        }
    }

    private State s = new State();
    private State image;
    private byte[] tape = {};
    private final Integer[][] sheets = new Integer[4][];
    private final int[] sorts = new int[4];
    private final Object[] slots = new Object[5];
    private final List<Integer> waiting = new ArrayList<>();

    private record LaidHole(int[] hole) { }

    private record LaidSheet(Integer[] row) { }

    // ---- holes

    private boolean isHole(int h) {
        return 0 <= h && h < s.holes.size();
    }

    private static boolean in(int v, int from, int to) {
        return from <= v && v <= to;
    }

    int hole(int kind, int place, int depth, int owner) {
        if (!in(kind, 0, 5) || !in(place, 0, 29) || !in(depth, 0, 99) || !in(owner, 0, 7)) return BAD;
        if (s.holes.size() == 10) return FULL;
        s.holes.add(new int[] {kind, place, depth, owner, 0});
        return s.holes.size() - 1;
    }

    int told(int hole, int what) {
        if (!isHole(hole) || !in(what, 0, 5)) return BAD;
        int[] h = s.holes.get(hole);
        return what < 5 ? h[what] : worth(h, h[0]);
    }

    private static int above(int kind) {
        return kind == 3 ? 1 : kind == 4 ? 2 : kind == 0 ? -1 : 0;
    }

    private static boolean isOf(int kind, int wanted) {
        return kind == wanted || kind > 0 && isOf(above(kind), wanted);
    }

    private static int worth(int[] h, int kind) {
        return switch (kind) {
            case 1 -> worth(h, 0) + h[3];
            case 2 -> 120 - h[2];
            case 3 -> worth(h, 1) * 2;
            case 4 -> worth(h, 2) - 9;
            case 5 -> h[1];
            default -> h[2];
        };
    }

    int as(int hole, int kind) {
        if (!isHole(hole) || !in(kind, 0, 5)) return BAD;
        return isOf(s.holes.get(hole)[0], kind) ? s.holes.get(hole)[2] : KIND;
    }

    int turns(int hole, int kind) {
        if (!isHole(hole) || !in(kind, 0, 5)) return BAD;
        int was = s.holes.get(hole)[0];
        s.holes.get(hole)[0] = kind;
        return was;
    }

    int set(int hole, int what, int v) {
        if (!isHole(hole) || !in(what, 1, 4)) return BAD;
        if (!in(v, 0, new int[] {0, 29, 99, 7, 999}[what])) return BAD;
        int was = s.holes.get(hole)[what];
        s.holes.get(hole)[what] = v;
        return was;
    }

    int settles(int hole, int x) {
        return !isHole(hole) || !in(x, 0, 9) ? BAD : sinks(s, s.holes.get(hole), s.holes.get(hole)[0], x);
    }

    private static int sinks(State s, int[] h, int kind, int x) {
        switch (kind) {
            case 1: return sinks(s, h, 0, x) + 1;
            case 2: return Math.min(9, sinks(s, h, 0, x) * 2);
            case 3: return 0;
            case 4: return sinks(s, h, 2, x) / 2;
            case 5: return x == 9 ? 1 : 0;
            default:
                List<String> text = counts(s, 1);
                return text == null ? x / 5 : Math.max(0, Math.min(9, worked(text, x, h[2], h[4])));
        }
    }

    int rule(int what, int v) {
        if (what == 0 && in(v, 0, 29)) {
            int was = s.mile;
            s.mile = v;
            return was;
        }
        if (what == 1 && in(v, 50, 200)) {
            int was = s.swell;
            s.swell = v;
            return was;
        }
        return BAD;
    }

    private static int draw(State s) {
        s.z = s.z * 1103515245 + 12345;
        return s.z >>> 8;
    }

    int deal(int n) {
        if (!in(n, 1, 10)) return BAD;
        int came = 0;
        while (came < n && s.holes.size() < 10) {
            int[] h = new int[5];
            h[0] = draw(s) % 6;
            h[1] = draw(s) % 30;
            h[2] = draw(s) % 60 + 1;
            h[3] = draw(s) % 8;
            s.holes.add(h);
            came++;
        }
        return came;
    }

    int seed(int v) {
        int was = s.z;
        s.z = v;
        return was;
    }

    // ---- digs, wants

    private static boolean fits(State s, int[] h, int kind, int e, int from) {
        switch (kind) {
            case 1:
                List<String> text = counts(s, 0);
                int age = text == null ? 3 : Math.max(0, Math.min(99, worked(text, h[2], h[3], 0)));
                return fits(s, h, 0, e, from) && h[4] >= age;
            case 2: return fits(s, h, 0, e, from) && (e & 1) == 0;
            case 3: return fits(s, h, 1, e, from) && e == h[2];
            case 4: return fits(s, h, 2, e, from) || e <= h[2] && from == h[1];
            case 5: return e <= h[2];
            default: return e <= h[2] && Math.abs(from - h[1]) <= s.mile;
        }
    }

    private static boolean fits(State s, int[] h, int spades, int from) {
        return fits(s, h, h[0], spades * s.swell / 100, from);
    }

    int takes(int place, int n) {
        if (!in(place, 0, 29) || !in(n, 1, 99)) return BAD;
        int set = 0;
        for (int h = 0; h < s.holes.size(); h++) {
            if (fits(s, s.holes.get(h), n, place)) set += 1 << h;
        }
        return set;
    }

    int dig(int place, int n, int hole, int owner) {
        if (!in(place, 0, 29) || !in(n, 1, 99) || !isHole(hole) || !in(owner, 0, 7)) return BAD;
        if (!fits(s, s.holes.get(hole), n, place)) return NO;
        State then = s.copied();
        then.holes.get(hole)[2] -= n * s.swell / 100;
        then.lifted += n;
        int[] comes = {0, place, n, owner, 0};
        if (then.holes.size() < 10) {
            then.holes.add(comes);
            s = then;
            return then.holes.size() - 1;
        }
        for (int h = 0; h < 10; h++) {
            if (then.holes.get(h)[2] == 0) {
                then.holes.set(h, comes);
                s = then;
                return h;
            }
        }
        return FULL;
    }

    int want(int place, int n) {
        if (!in(place, 0, 29) || !in(n, 1, 99)) return BAD;
        if (s.wants.size() == 6) return FULL;
        s.wants.add(new int[] {place, n});
        return s.wants.size() - 1;
    }

    int forget() {
        int were = s.wants.size();
        s.wants.clear();
        return were;
    }

    /** Tries all, in the order of preference; the first of the best ones stays. Row: met, miles, holes by want. */
    private static int[] dealt(State s, int without) {
        int wants = s.wants.size();
        int[] best = new int[wants + 2];
        best[0] = -1;
        tryWant(s, without, 0, new int[wants + 2], new boolean[s.holes.size()], best);
        return best;
    }

    private static void tryWant(State s, int without, int w, int[] so, boolean[] used, int[] best) {
        int wants = s.wants.size();
        if (so[0] + wants - w < best[0]) return;
        if (w == wants) {
            if (so[0] > best[0] || so[0] == best[0] && so[1] < best[1]) System.arraycopy(so, 0, best, 0, so.length);
            return;
        }
        int[] want = s.wants.get(w);
        for (int h = 0; h < used.length; h++) {
            if (used[h] || h == without || !fits(s, s.holes.get(h), want[1], want[0])) continue;
            int far = Math.abs(s.holes.get(h)[1] - want[0]);
            used[h] = true;
            so[0]++;
            so[1] += far;
            so[w + 2] = h;
            tryWant(s, without, w + 1, so, used, best);
            used[h] = false;
            so[0]--;
            so[1] -= far;
        }
        so[w + 2] = NONE;
        tryWant(s, without, w + 1, so, used, best);
    }

    /** How many are met, by ways that each free a hole for one more. */
    private static int met(State s, int without) {
        int[] by = new int[s.holes.size()];
        Arrays.fill(by, -1);
        int met = 0;
        for (int w = 0; w < s.wants.size(); w++) {
            if (finds(s, w, without, by, new boolean[by.length])) met++;
        }
        return met;
    }

    private static boolean finds(State s, int w, int without, int[] by, boolean[] seen) {
        for (int h = 0; h < by.length; h++) {
            if (seen[h] || h == without || !fits(s, s.holes.get(h), s.wants.get(w)[1], s.wants.get(w)[0])) continue;
            seen[h] = true;
            if (by[h] < 0 || finds(s, by[h], without, by, seen)) {
                by[h] = w;
                return true;
            }
        }
        return false;
    }

    int dealing(int what) {
        return in(what, 0, s.wants.size() + 1) ? dealt(s, -1)[what] : BAD;
    }

    int adds(int hole) {
        return isHole(hole) ? met(s, -1) - met(s, hole) : BAD;
    }

    int frees(int place) {
        if (!in(place, 0, 29)) return BAD;
        int met = met(s, -1);
        for (int n = 1; n <= 99; n++) {
            State then = s.copied();
            then.holes.add(new int[] {0, place, n, 0, 0});
            if (met(then, -1) > met) return n;
        }
        return NONE;
    }

    // ---- days, debts

    private static void day(State s) {
        for (int[] h : s.holes) {
            if (h[2] == 0) continue;
            int left = Math.max(0, h[2] - sinks(s, h, h[0], draw(s) % 10));
            s.lost += h[2] - left;
            h[2] = left;
            if (h[4] < 999) h[4]++;
        }
        s.day++;
    }

    private static State after(State s, int days) {
        State then = s.copied();
        for (int d = 0; d < days; d++) {
            day(then);
        }
        return then;
    }

    int days(int n) {
        if (!in(n, 1, 100)) return BAD;
        for (int d = 0; d < n && s.day < 9999; d++) {
            day(s);
        }
        return s.filled();
    }

    int behind(int n, int what) {
        if (!in(n, 0, 100) || !in(what, 0, 2)) return BAD;
        State then = after(s, n);
        return what == 0 ? met(then, -1) : what == 1 ? then.depths() : then.filled();
    }

    int paid() {
        State then = s.copied();
        for (int d = 0; d <= 300; d++) {
            if (then.depths() == 0) return d;
            day(then);
        }
        return NONE;
    }

    int best(int n, int what) {
        if (!in(n, 0, 30) || !in(what, 0, 1)) return BAD;
        int first = 0;
        for (int d = 1; d <= n; d++) {
            if (met(after(s, d), -1) > met(after(s, first), -1)) first = d;
        }
        return what == 0 ? first : met(after(s, first), -1);
    }

    int owes(int owner) {
        return in(owner, 0, 7) ? s.holes.stream().filter(h -> h[3] == owner).mapToInt(h -> h[2]).sum() : BAD;
    }

    int debtor() {
        int worst = 7;
        for (int o = 6; o >= 0; o--) {
            if (owes(o) >= owes(worst)) worst = o;
        }
        return worst;
    }

    int dug(int sheet, int what) {
        if (!in(sheet, 0, 3) || !in(what, 0, 1)) return BAD;
        if (sheets[sheet] == null) return NOTHING;
        if (s.holes.isEmpty()) return NONE;
        int best = 0;
        int least = Integer.MAX_VALUE;
        for (int h = 0; h < s.holes.size(); h++) {
            int sum = 0;
            for (int k = 0; k < sheets[sheet].length; k++) {
                Integer v = sheets[sheet][k];
                if (v != null) sum += Math.abs(after(s, k).holes.get(h)[2] - v);
            }
            if (sum < least) {
                least = sum;
                best = h;
            }
        }
        return what == 0 ? best : least;
    }

    int fine(int owner) {
        if (!in(owner, 0, 7)) return BAD;
        List<String> text = counts(s, 2);
        return text == null ? owes(owner) : worked(text, owes(owner), s.lifted, 0);
    }

    // ---- texts

    private static List<String> counts(State s, int key) {
        List<String> last = null;
        for (List<String> text : s.texts) {
            if (text.get(0).equals(KEYS[key])) last = text;
        }
        return last;
    }

    /** The loosest sign that stands last outside of brackets parts a text in two. */
    private static int worked(List<String> text, int... values) {
        int key = Arrays.asList(KEYS).indexOf(text.get(0));
        return split(text.subList(1, text.size()), NAMES[key], values);
    }

    private static int split(List<String> t, String names, int[] values) {
        for (String level : LEVELS) {
            int open = 0;
            for (int i = t.size() - 1; i > 0; i--) {
                if (t.get(i).equals(")")) open++;
                if (t.get(i).equals("(")) open--;
                if (open == 0 && level.contains(t.get(i))) {
                    int a = split(t.subList(0, i), names, values);
                    int b = split(t.subList(i + 1, t.size()), names, values);
                    return joined(t.get(i), a, b);
                }
            }
        }
        String first = t.get(0);
        if (first.equals("!")) return split(t.subList(1, t.size()), names, values) == 0 ? 1 : 0;
        if (first.equals("(")) return split(t.subList(1, t.size() - 1), names, values);
        return names.contains(first) ? values[names.indexOf(first)] : Integer.parseInt(first);
    }

    private static int joined(String sign, int a, int b) {
        return switch (sign) {
            case "|" -> a != 0 | b != 0 ? 1 : 0;
            case "&" -> a != 0 & b != 0 ? 1 : 0;
            case "<" -> a < b ? 1 : 0;
            case "=" -> a == b ? 1 : 0;
            case ">" -> a > b ? 1 : 0;
            case "+" -> (int) ((long) a + b);
            case "-" -> (int) ((long) a - b);
            case "*" -> (int) ((long) a * b);
            default -> b == 0 ? 0 : (int) ((long) a / b);
        };
    }

    int feed(int a, int b, int c) {
        if (tape.length > 84) return FULL;
        byte[] longer = Arrays.copyOf(tape, tape.length + 12);
        for (int i = 0; i < 12; i++) {
            int four = i < 4 ? a : i < 8 ? b : c;
            longer[tape.length + i] = (byte) (four >> 24 - i % 4 * 8);
        }
        tape = longer;
        return tape.length;
    }

    int trim(int n) {
        if (!in(n, 0, tape.length)) return BAD;
        tape = Arrays.copyOf(tape, n);
        return n;
    }

    private static boolean isLetter(byte b) {
        return 'a' <= b && b <= 'z';
    }

    private static boolean isDigit(byte b) {
        return '0' <= b && b <= '9';
    }

    /** A machine of two states (a piece is due, or a joint) with a row of what is open. */
    int text() {
        byte[] t = tape;
        tape = new byte[0];
        List<String> words = new ArrayList<>();
        StringBuilder open = new StringBuilder(); // '(' and '!' that are open, and 'c': a comparison has been here
        boolean due = true;
        boolean behindWord = false;
        String names = "";
        int i = 0;
        while (i < t.length) {
            if (t[i] == 32) {
                i++;
                behindWord = false;
                continue;
            }
            int e = i + 1;
            while (e < t.length && (isLetter(t[i]) && isLetter(t[e]) || isDigit(t[i]) && isDigit(t[e]))) e++;
            boolean word = isLetter(t[i]) || isDigit(t[i]);
            String w = new String(t, i, e - i, java.nio.charset.StandardCharsets.ISO_8859_1);
            if (word && behindWord) return -100 - i;
            if (words.isEmpty()) {
                int key = Arrays.asList(KEYS).indexOf(w);
                if (key < 0) return -100 - i;
                names = NAMES[key];
            } else if (due) {
                if (w.equals("(") || w.equals("!")) {
                    if (open.chars().filter(c -> c == w.charAt(0)).count() == 8) return -100 - i;
                    open.append(w);
                } else if (isDigit(t[i]) ? w.length() <= 4 : w.length() == 1 && names.contains(w)) {
                    due = false;
                    closeNots(open);
                } else {
                    return -100 - i;
                }
            } else if (w.equals(")")) {
                closeTest(open);
                if (open.length() == 0) return -100 - i;
                open.setLength(open.length() - 1);
                closeNots(open);
            } else if ("+-*/".contains(w)) {
                due = true;
            } else if ("&|".contains(w)) {
                closeTest(open);
                due = true;
            } else if ("<=>".contains(w) && (open.length() == 0 || open.charAt(open.length() - 1) != 'c')) {
                open.append('c');
                due = true;
            } else {
                return -100 - i;
            }
            words.add(w);
            behindWord = word;
            i = e;
        }
        closeTest(open);
        if (due || open.length() > 0) return -100 - t.length;
        if (s.texts.size() == 14) return FULL;
        s.texts.add(words);
        return s.texts.size() - 1;
    }

    private static void closeNots(StringBuilder open) {
        while (open.length() > 0 && open.charAt(open.length() - 1) == '!') open.setLength(open.length() - 1);
    }

    private static void closeTest(StringBuilder open) {
        if (open.length() > 0 && open.charAt(open.length() - 1) == 'c') open.setLength(open.length() - 1);
    }

    int textTold(int text, int what) {
        if (!in(text, 0, s.texts.size() - 1) || !in(what, 0, 1)) return BAD;
        List<String> t = s.texts.get(text);
        if (what == 0) return Arrays.asList(KEYS).indexOf(t.get(0));
        return (int) t.stream().skip(1).filter(w -> Character.isLetterOrDigit(w.charAt(0))).count();
    }

    int why(int key) {
        if (!in(key, 0, 2)) return BAD;
        List<String> text = counts(s, key);
        for (int t = s.texts.size() - 1; t >= 0; t--) {
            if (s.texts.get(t) == text) return t;
        }
        return NONE;
    }

    // ---- sheets, slots; a row holds null for NO NUMBER

    int sheet(int sheet, int sort, int n) {
        if (!in(sheet, 0, 3) || !in(sort, -1, 1) || sort >= 0 && n > 24) return BAD;
        if (sort >= 0 && n < 0) return SIZE;
        sorts[sheet] = sort;
        sheets[sheet] = sort < 0 ? null : new Integer[n];
        if (sort < 0) return 0;
        Arrays.fill(sheets[sheet], 0);
        return n;
    }

    int mark(int sheet, int place, int v) {
        if (!in(sheet, 0, 3)) return BAD;
        if (sheets[sheet] == null) return NOTHING;
        if (!in(place, 0, sheets[sheet].length - 1)) return INDEX;
        if (sorts[sheet] == 0 && v == NONE) return KIND;
        if (sorts[sheet] == 1 && v != NONE && !in(v, -99999, 99999)) return BAD;
        sheets[sheet][place] = v == NONE ? null : sorts[sheet] == 0 ? (v << 16) >> 16 : v;
        return 1;
    }

    int pour(int sheet) {
        if (!in(sheet, 0, 3)) return BAD;
        if (sheets[sheet] == null) return NOTHING;
        int changed = 0;
        for (int p = 0; p < Math.min(sheets[sheet].length, s.holes.size()); p++) {
            if (sheets[sheet][p] == null) continue;
            int depth = Math.max(0, Math.min(99, sheets[sheet][p]));
            if (s.holes.get(p)[2] != depth) changed++;
            s.holes.get(p)[2] = depth;
        }
        return changed;
    }

    int reads(int sheet) {
        if (!in(sheet, 0, 3)) return BAD;
        if (sheets[sheet] == null) return NOTHING;
        for (int p = 0; p < sheets[sheet].length; p++) {
            Integer v = sheets[sheet][p];
            if (v != null && (p >= s.holes.size() || s.holes.get(p)[2] != v)) return p;
        }
        return NONE;
    }

    int copy(int from, int place, int to, int at, int many) {
        if (!in(from, 0, 3) || !in(to, 0, 3)) return BAD;
        if (sheets[from] == null || sheets[to] == null) return NOTHING;
        if (sorts[from] != sorts[to]) return KIND;
        long fromEnd = (long) place + many;
        long toEnd = (long) at + many;
        if (place < 0 || at < 0 || many < 0 || fromEnd > sheets[from].length || toEnd > sheets[to].length) return INDEX;
        Integer[] were = sheets[from].clone();
        for (int i = 0; i < many; i++) {
            sheets[to][at + i] = were[place + i];
        }
        return many;
    }

    int lay(int slot, int thing, int k) {
        if (!in(slot, 0, 4) || !in(thing, 0, 3)) return BAD;
        if (thing == 1 && !isHole(k) || thing == 2 && !in(k, 0, 3)) return BAD;
        if (thing == 2 && sheets[k] == null) return NOTHING;
        Object was = slots[slot];
        switch (thing) {
            case 1: slots[slot] = new LaidHole(s.holes.get(k).clone()); break;
            case 2: slots[slot] = new LaidSheet(sheets[k].clone()); break;
            case 3: slots[slot] = k; break;
            default: slots[slot] = null;
        }
        return was == null ? 0 : was instanceof LaidHole ? 1 : was instanceof LaidSheet ? 2 : 3;
    }

    int ask(int slot, int kind) {
        if (!in(slot, 0, 4) || !in(kind, 0, 5)) return BAD;
        if (slots[slot] == null) return NOTHING;
        if (!(slots[slot] instanceof LaidHole laid) || !isOf(laid.hole[0], kind)) return KIND;
        return worth(laid.hole, laid.hole[0]);
    }

    int item(int slot, int place) {
        if (!in(slot, 0, 4)) return BAD;
        if (slots[slot] == null) return NOTHING;
        if (!(slots[slot] instanceof LaidSheet laid)) return KIND;
        if (!in(place, 0, laid.row.length - 1)) return INDEX;
        return laid.row[place] == null ? KIND : laid.row[place];
    }

    int rest(int slot, int n) {
        if (!in(slot, 0, 4)) return BAD;
        if (slots[slot] == null) return NOTHING;
        if (!(slots[slot] instanceof Integer number)) return KIND;
        return n == 0 ? NO : (int) ((long) number % n);
    }

    // ---- rows, images

    int tell(int v) {
        if (waiting.size() == 60) return FULL;
        waiting.add(v);
        return waiting.size();
    }

    int check(int n) {
        List<Integer> told = new ArrayList<>(waiting);
        waiting.clear();
        if (!in(n, 1, 30)) return BAD;
        if (image == null) return NO;
        List<Integer> due = daysTold(n);
        if (told.equals(due)) return 0;
        int same = 0;
        while (same < told.size() && same < due.size() && told.get(same).equals(due.get(same))) same++;
        return 1 + same;
    }

    /** What is due for check, for tests that tell it. */
    List<Integer> daysTold(int n) {
        List<Integer> due = new ArrayList<>();
        State then = image == null ? new State() : image.copied();
        for (int d = 0; d < n && then.day < 9999; d++) {
            day(then);
            due.add(then.depths());
            due.add(then.filled());
        }
        return due;
    }

    int keep() {
        image = s.copied();
        return s.holes.size();
    }

    int back() {
        if (image == null) return NO;
        s = image.copied();
        return s.holes.size();
    }

    int count(int what) {
        int[] all = {s.holes.size(), s.filled(), s.wants.size(), s.day, s.depths(), s.lifted, s.lost, s.mile, s.swell,
            s.texts.size(), waiting.size(), tape.length, s.z};
        return in(what, 0, 12) ? all[what] : BAD;
    }
}
