import java.util.Arrays;

/** Who digs must fill. ../shared/DOC.md says what each call answers. */
public final class DigFill {
    public static final int BAD = -1000000001, NO = -1000000002, FULL = -1000000003, NONE = -1000000005,
        NOTHING = -1000000011, KIND = -1000000012, INDEX = -1000000013, SIZE = -1000000014;

    private static final int MOST_HOLES = 10, MOST_WANTS = 6, MOST_TEXTS = 14, MOST_BYTES = 96, MOST_WAITING = 60;
    private static final int SHEETS = 4, MOST_PLACES = 24, SLOTS = 5;
    private static final int LAST_PLACE = 29, LAST_DEPTH = 99, LAST_OWNER = 7, LAST_AGE = 999, LAST_DAY = 9999;
    private static final int GRAVE = 1, POND = 2, CRYPT = 3, DYKE = 4, SHAFT = 5, LAST_KIND = 5;
    private static final int[] ABOVE = {-1, 0, 0, 1, 2, 0};
    private static final int LAW = 0, SETTLE = 1, FINE = 2, KEYS = 3;
    private static final int MISSING = -1, SHORTS = 0, FLOATS = 1, LAST_FLOAT = 99999;
    private static final int EMPTY = 0, A_HOLE = 1, A_SHEET = 2, A_NUMBER = 3;
    private static final int NOBODY = -1;

    private final Land now = new Land();
    // What is only thought is worked out here, so that no call makes a Land of its own.
    private final Land thought = new Land();
    private final Land image = new Land();
    private boolean kept = false;
    private final Dealer dealer = new Dealer();
    private final Tape tape = new Tape();
    private final Sheet[] sheets = new Sheet[SHEETS];
    private final Slot[] slots = new Slot[SLOTS];
    private final int[] waiting = new int[MOST_WAITING];
    private int waitingCount = 0;
    private final int[] differences = new int[MOST_HOLES];

    public DigFill() {
        for (int i = 0; i < SHEETS; i++) {
            sheets[i] = new Sheet();
        }
        for (int i = 0; i < SLOTS; i++) {
            slots[i] = new Slot();
        }
    }

    // ---- holes

    public int hole(int kind, int place, int depth, int owner) {
        if (!within(kind, LAST_KIND) || !within(place, LAST_PLACE)) {
            return BAD;
        }
        if (!within(depth, LAST_DEPTH) || !within(owner, LAST_OWNER)) {
            return BAD;
        }
        if (now.holeCount >= MOST_HOLES) {
            return FULL;
        }
        return now.open(kind, place, depth, owner);
    }

    public int told(int hole, int what) {
        Hole it = now.find(hole);
        if (it == null || !within(what, 5)) {
            return BAD;
        }
        return it.part(what);
    }

    public int as(int hole, int kind) {
        Hole it = now.find(hole);
        if (it == null || !within(kind, LAST_KIND)) {
            return BAD;
        }
        return it.isOf(kind) ? it.depth : KIND;
    }

    public int turns(int hole, int kind) {
        Hole it = now.find(hole);
        if (it == null || !within(kind, LAST_KIND)) {
            return BAD;
        }
        int was = it.kind;
        it.kind = kind;
        return was;
    }

    public int set(int hole, int what, int v) {
        Hole it = now.find(hole);
        if (it == null || !within(v, mostOf(what))) {
            return BAD;
        }
        int was = it.part(what);
        it.change(what, v);
        return was;
    }

    public int settles(int hole, int x) {
        Hole it = now.find(hole);
        if (it == null || !within(x, 9)) {
            return BAD;
        }
        return now.sinks(it, x);
    }

    public int rule(int what, int v) {
        if (what == 0 && within(v, LAST_PLACE)) {
            int was = now.mile;
            now.mile = v;
            return was;
        }
        if (what == 1 && v >= 50 && v <= 200) {
            int was = now.swell;
            now.swell = v;
            return was;
        }
        return BAD;
    }

    public int deal(int n) {
        if (n < 1 || n > MOST_HOLES) {
            return BAD;
        }
        int came = Math.min(n, MOST_HOLES - now.holeCount);
        for (int i = 0; i < came; i++) {
            now.openByLot();
        }
        return came;
    }

    public int seed(int v) {
        int was = now.z;
        now.z = v;
        return was;
    }

    // ---- digs, wants

    public int takes(int place, int s) {
        if (!within(place, LAST_PLACE) || !isSpades(s)) {
            return BAD;
        }
        int earth = now.earthOf(s);
        int bits = 0;
        for (int h = 0; h < now.holeCount; h++) {
            if (now.canFill(now.holes[h], earth, place)) {
                bits |= 1 << h;
            }
        }
        return bits;
    }

    public int dig(int place, int s, int hole, int owner) {
        Hole it = now.find(hole);
        if (it == null || !within(place, LAST_PLACE) || !isSpades(s) || !within(owner, LAST_OWNER)) {
            return BAD;
        }
        int earth = now.earthOf(s);
        if (!now.canFill(it, earth, place)) {
            return NO;
        }
        int room = now.roomAfter(it, earth);
        if (room < 0 || room >= MOST_HOLES) {
            return FULL;
        }
        it.depth -= earth;
        now.lifted += s;
        if (room == now.holeCount) {
            return now.open(0, place, s, owner);
        }
        now.holes[room].start(0, place, s, owner);
        return room;
    }

    public int want(int place, int s) {
        if (!within(place, LAST_PLACE) || !isSpades(s)) {
            return BAD;
        }
        int number = now.wantCount;
        if (number >= MOST_WANTS) {
            return FULL;
        }
        now.wantPlaces[number] = place;
        now.wantSpades[number] = s;
        now.wantCount = number + 1;
        return number;
    }

    public int forget() {
        int were = now.wantCount;
        now.wantCount = 0;
        return were;
    }

    public int dealing(int what) {
        if (!within(what, now.wantCount + 1)) {
            return BAD;
        }
        int met = dealer.solve(now, NOBODY, NOBODY);
        if (what == 0) {
            return met;
        }
        return what == 1 ? dealer.miles() : dealer.holeOf(what - 2);
    }

    public int adds(int hole) {
        if (now.find(hole) == null) {
            return BAD;
        }
        return dealer.solve(now, NOBODY, NOBODY) - dealer.solve(now, hole, NOBODY);
    }

    /** A new HOLE meets one more WANT just if it TAKES one without which as many can be MET. */
    public int frees(int place) {
        if (!within(place, LAST_PLACE)) {
            return BAD;
        }
        int met = dealer.solve(now, NOBODY, NOBODY);
        int least = LAST_DEPTH + 1;
        for (int w = 0; w < now.wantCount; w++) {
            int spades = Math.max(1, now.earthOf(now.wantSpades[w]));
            boolean near = Math.abs(place - now.wantPlaces[w]) <= now.mile;
            if (near && spades < least && dealer.solve(now, NOBODY, w) == met) {
                least = spades;
            }
        }
        return least <= LAST_DEPTH ? least : NONE;
    }

    // ---- days, debts

    public int days(int n) {
        if (n < 1 || n > 100) {
            return BAD;
        }
        int steps = Math.min(n, LAST_DAY - now.day);
        for (int i = 0; i < steps; i++) {
            now.passDay();
        }
        return now.filledCount();
    }

    public int behind(int n, int what) {
        if (!within(n, 100) || !within(what, 2)) {
            return BAD;
        }
        thought.become(now);
        for (int i = 0; i < n; i++) {
            thought.passDay();
        }
        if (what == 0) {
            return dealer.solve(thought, NOBODY, NOBODY);
        }
        return what == 1 ? thought.depthSum() : thought.filledCount();
    }

    public int paid() {
        thought.become(now);
        for (int day = 0; day <= 300; day++) {
            if (thought.filledCount() == thought.holeCount) {
                return day;
            }
            thought.passDay();
        }
        return NONE;
    }

    public int best(int n, int what) {
        if (!within(n, 30) || !within(what, 1)) {
            return BAD;
        }
        thought.become(now);
        int bestDay = 0;
        int most = -1;
        for (int day = 0; day <= n; day++) {
            int met = dealer.solve(thought, NOBODY, NOBODY);
            if (met > most) {
                most = met;
                bestDay = day;
            }
            thought.passDay();
        }
        return what == 0 ? bestDay : most;
    }

    public int owes(int owner) {
        return within(owner, LAST_OWNER) ? now.debtOf(owner) : BAD;
    }

    public int debtor() {
        int worst = 0;
        for (int owner = 1; owner <= LAST_OWNER; owner++) {
            if (now.debtOf(owner) > now.debtOf(worst)) {
                worst = owner;
            }
        }
        return worst;
    }

    public int dug(int sheet, int what) {
        Sheet row = sheetAt(sheet);
        if (row == null || !within(what, 1)) {
            return BAD;
        }
        if (row.sort == MISSING) {
            return NOTHING;
        }
        if (now.holeCount == 0) {
            return NONE;
        }
        addDifferences(row);
        int least = 0;
        for (int h = 1; h < now.holeCount; h++) {
            if (differences[h] < differences[least]) {
                least = h;
            }
        }
        return what == 0 ? least : differences[least];
    }

    public int fine(int owner) {
        return within(owner, LAST_OWNER) ? now.fineOf(owner) : BAD;
    }

    // ---- texts

    public int feed(int a, int b, int c) {
        if (tape.length + 12 > MOST_BYTES) {
            return FULL;
        }
        tape.putBytes(a);
        tape.putBytes(b);
        tape.putBytes(c);
        return tape.length;
    }

    public int trim(int n) {
        if (!within(n, tape.length)) {
            return BAD;
        }
        tape.length = n;
        return n;
    }

    public int text() {
        Text read = tape.read();
        tape.length = 0;
        if (read == null) {
            return -100 - tape.at;
        }
        if (now.textCount >= MOST_TEXTS) {
            return FULL;
        }
        return now.addText(read);
    }

    public int textTold(int text, int what) {
        Text it = now.findText(text);
        if (it == null || !within(what, 1)) {
            return BAD;
        }
        return what == 0 ? it.key : it.pieces;
    }

    public int why(int key) {
        if (!within(key, KEYS - 1)) {
            return BAD;
        }
        int number = now.counting[key];
        return number < 0 ? NONE : number;
    }

    // ---- sheets, slots

    public int sheet(int sheet, int sort, int n) {
        Sheet row = sheetAt(sheet);
        if (row == null || sort < MISSING || sort > FLOATS) {
            return BAD;
        }
        if (sort == MISSING) {
            row.clear(MISSING, 0);
            return 0;
        }
        if (n > MOST_PLACES) {
            return BAD;
        }
        if (n < 0) {
            return SIZE;
        }
        row.clear(sort, n);
        return n;
    }

    public int mark(int sheet, int place, int v) {
        Sheet row = sheetAt(sheet);
        if (row == null) {
            return BAD;
        }
        if (row.sort == MISSING) {
            return NOTHING;
        }
        if (!row.has(place)) {
            return INDEX;
        }
        if (row.sort == SHORTS) {
            if (v == NONE) {
                return KIND;
            }
            row.places[place] = (short) v;
            return 1;
        }
        if (v != NONE && (v < -LAST_FLOAT || v > LAST_FLOAT)) {
            return BAD;
        }
        row.places[place] = v;
        return 1;
    }

    public int pour(int sheet) {
        Sheet row = sheetAt(sheet);
        if (row == null) {
            return BAD;
        }
        if (row.sort == MISSING) {
            return NOTHING;
        }
        int otherwise = 0;
        for (int h = 0; h < now.holeCount; h++) {
            Hole it = now.holes[h];
            int depth = row.isNumber(h) ? held(row.places[h], LAST_DEPTH) : it.depth;
            if (depth != it.depth) {
                otherwise++;
            }
            it.depth = depth;
        }
        return otherwise;
    }

    public int reads(int sheet) {
        Sheet row = sheetAt(sheet);
        if (row == null) {
            return BAD;
        }
        if (row.sort == MISSING) {
            return NOTHING;
        }
        for (int p = 0; p < row.size; p++) {
            Hole it = now.find(p);
            if (row.isNumber(p) && (it == null || it.depth != row.places[p])) {
                return p;
            }
        }
        return NONE;
    }

    public int copy(int from, int place, int to, int at, int many) {
        Sheet source = sheetAt(from);
        Sheet target = sheetAt(to);
        if (source == null || target == null) {
            return BAD;
        }
        if (source.sort == MISSING || target.sort == MISSING) {
            return NOTHING;
        }
        if (source.sort != target.sort) {
            return KIND;
        }
        if (!source.hasAll(place, many) || !target.hasAll(at, many)) {
            return INDEX;
        }
        System.arraycopy(source.places, place, target.places, at, many);
        return many;
    }

    public int lay(int slot, int thing, int k) {
        Slot it = slotAt(slot);
        if (it == null || !within(thing, A_NUMBER)) {
            return BAD;
        }
        Hole hole = now.find(k);
        Sheet row = sheetAt(k);
        if (thing == A_HOLE && hole == null || thing == A_SHEET && row == null) {
            return BAD;
        }
        if (thing == A_SHEET && row != null && row.sort == MISSING) {
            return NOTHING;
        }
        int held = it.thing;
        it.thing = thing;
        it.number = k;
        if (thing == A_HOLE && hole != null) {
            it.hole.become(hole);
        }
        if (thing == A_SHEET && row != null) {
            it.row.become(row);
        }
        return held;
    }

    public int ask(int slot, int kind) {
        Slot it = slotAt(slot);
        if (it == null || !within(kind, LAST_KIND)) {
            return BAD;
        }
        if (it.thing == EMPTY) {
            return NOTHING;
        }
        if (it.thing != A_HOLE || !it.hole.isOf(kind)) {
            return KIND;
        }
        return it.hole.worth();
    }

    public int item(int slot, int place) {
        Slot it = slotAt(slot);
        if (it == null) {
            return BAD;
        }
        if (it.thing == EMPTY) {
            return NOTHING;
        }
        if (it.thing != A_SHEET) {
            return KIND;
        }
        if (!it.row.has(place)) {
            return INDEX;
        }
        return it.row.isNumber(place) ? it.row.places[place] : KIND;
    }

    public int rest(int slot, int n) {
        Slot it = slotAt(slot);
        if (it == null) {
            return BAD;
        }
        if (it.thing == EMPTY) {
            return NOTHING;
        }
        if (it.thing != A_NUMBER) {
            return KIND;
        }
        return n == 0 ? NO : it.number % n;
    }

    // ---- rows, images

    public int tell(int v) {
        if (waitingCount >= MOST_WAITING) {
            return FULL;
        }
        waiting[waitingCount] = v;
        waitingCount++;
        return waitingCount;
    }

    public int check(int n) {
        int many = waitingCount;
        waitingCount = 0;
        if (n < 1 || n > 30) {
            return BAD;
        }
        if (!kept) {
            return NO;
        }
        thought.become(image);
        int steps = Math.min(n, LAST_DAY - image.day);
        int right = 0;
        for (int i = 0; i < steps; i++) {
            thought.passDay();
            if (right >= many || waiting[right] != thought.depthSum()) {
                return 1 + right;
            }
            right++;
            if (right >= many || waiting[right] != thought.filledCount()) {
                return 1 + right;
            }
            right++;
        }
        return right == many ? 0 : 1 + right;
    }

    public int keep() {
        image.become(now);
        kept = true;
        return now.holeCount;
    }

    public int back() {
        if (!kept) {
            return NO;
        }
        now.become(image);
        return now.holeCount;
    }

    public int count(int what) {
        switch (what) {
            case 0: return now.holeCount;
            case 1: return now.filledCount();
            case 2: return now.wantCount;
            case 3: return now.day;
            case 4: return now.depthSum();
            case 5: return now.lifted;
            case 6: return now.lost;
            case 7: return now.mile;
            case 8: return now.swell;
            case 9: return now.textCount;
            case 10: return waitingCount;
            case 11: return tape.length;
            case 12: return now.z;
            default: return BAD;
        }
    }

    private static boolean within(int v, int most) {
        return v >= 0 && v <= most;
    }

    private static boolean isSpades(int s) {
        return s >= 1 && s <= LAST_DEPTH;
    }

    private static int held(int v, int most) {
        return Math.max(0, Math.min(most, v));
    }

    /** What can't be set has no value within its bound. */
    private static int mostOf(int what) {
        switch (what) {
            case 1: return LAST_PLACE;
            case 2: return LAST_DEPTH;
            case 3: return LAST_OWNER;
            case 4: return LAST_AGE;
            default: return -1;
        }
    }

    private void addDifferences(Sheet row) {
        Arrays.fill(differences, 0);
        thought.become(now);
        for (int k = 0; k < row.size; k++) {
            for (int h = 0; h < thought.holeCount && row.isNumber(k); h++) {
                differences[h] += Math.abs(thought.holes[h].depth - row.places[k]);
            }
            thought.passDay();
        }
    }

    private Sheet sheetAt(int sheet) {
        return within(sheet, SHEETS - 1) ? sheets[sheet] : null;
    }

    private Slot slotAt(int slot) {
        return within(slot, SLOTS - 1) ? slots[slot] : null;
    }

    private static final class Hole {
        private int kind = 0;
        private int place = 0;
        private int depth = 0;
        private int owner = 0;
        private int age = 0;

        void start(int newKind, int newPlace, int newDepth, int newOwner) {
            kind = newKind;
            place = newPlace;
            depth = newDepth;
            owner = newOwner;
            age = 0;
        }

        void become(Hole other) {
            start(other.kind, other.place, other.depth, other.owner);
            age = other.age;
        }

        int part(int what) {
            switch (what) {
                case 0: return kind;
                case 1: return place;
                case 2: return depth;
                case 3: return owner;
                case 4: return age;
                default: return worth();
            }
        }

        void change(int what, int v) {
            switch (what) {
                case 1: place = v; break;
                case 2: depth = v; break;
                case 3: owner = v; break;
                case 4: age = v; break;
                default: break;
            }
        }

        boolean isOf(int wanted) {
            int k = kind;
            for (int level = 0; level < ABOVE.length && k >= 0 && k < ABOVE.length; level++) {
                if (k == wanted) {
                    return true;
                }
                k = ABOVE[k];
            }
            return false;
        }

        int worth() {
            switch (kind) {
                case GRAVE: return depth + owner;
                case CRYPT: return 2 * (depth + owner);
                case POND: return 120 - depth;
                case DYKE: return 120 - depth - 9;
                case SHAFT: return place;
                default: return depth;
            }
        }
    }

    /** All that an image keeps. */
    private static final class Land {
        private final Hole[] holes = new Hole[MOST_HOLES];
        private int holeCount = 0;
        private final int[] wantPlaces = new int[MOST_WANTS];
        private final int[] wantSpades = new int[MOST_WANTS];
        private int wantCount = 0;
        private final Text[] texts = new Text[MOST_TEXTS];
        private int textCount = 0;
        private final int[] counting = {-1, -1, -1};
        private int mile = 10;
        private int swell = 120;
        private int day = 0;
        private int lifted = 0;
        private int lost = 0;
        private int z = 1;

        Land() {
            for (int i = 0; i < MOST_HOLES; i++) {
                holes[i] = new Hole();
            }
        }

        void become(Land other) {
            for (int h = 0; h < other.holeCount; h++) {
                holes[h].become(other.holes[h]);
            }
            holeCount = other.holeCount;
            System.arraycopy(other.wantPlaces, 0, wantPlaces, 0, MOST_WANTS);
            System.arraycopy(other.wantSpades, 0, wantSpades, 0, MOST_WANTS);
            wantCount = other.wantCount;
            for (int t = 0; t < other.textCount; t++) {
                texts[t] = other.texts[t];
            }
            textCount = other.textCount;
            System.arraycopy(other.counting, 0, counting, 0, KEYS);
            mile = other.mile;
            swell = other.swell;
            day = other.day;
            lifted = other.lifted;
            lost = other.lost;
            z = other.z;
        }

        Hole find(int hole) {
            return hole >= 0 && hole < holeCount ? holes[hole] : null;
        }

        int open(int kind, int place, int depth, int owner) {
            int number = holeCount;
            if (number >= MOST_HOLES) {
                return FULL;
            }
            holes[number].start(kind, place, depth, owner);
            holeCount = number + 1;
            return number;
        }

        void openByLot() {
            int kind = draw() % 6;
            int place = draw() % 30;
            int depth = 1 + draw() % 60;
            int owner = draw() % 8;
            open(kind, place, depth, owner);
        }

        int draw() {
            z = z * 1103515245 + 12345;
            return z >>> 8;
        }

        /** The number that the new HOLE of a dig would bear, or -1. */
        int roomAfter(Hole target, int earth) {
            if (holeCount < MOST_HOLES) {
                return holeCount;
            }
            for (int h = 0; h < holeCount; h++) {
                int left = holes[h].depth - (holes[h] == target ? earth : 0);
                if (left == 0) {
                    return h;
                }
            }
            return -1;
        }

        int earthOf(int spades) {
            return spades * swell / 100;
        }

        boolean canFill(Hole hole, int earth, int from) {
            boolean fits = earth <= hole.depth;
            boolean near = Math.abs(from - hole.place) <= mile;
            boolean even = earth % 2 == 0;
            switch (hole.kind) {
                case GRAVE: return fits && near && isOldEnough(hole);
                case CRYPT: return earth == hole.depth && near && isOldEnough(hole);
                case POND: return fits && near && even;
                case DYKE: return fits && (near && even || from == hole.place);
                case SHAFT: return fits;
                default: return fits && near;
            }
        }

        boolean isOldEnough(Hole hole) {
            Text law = textFor(LAW);
            return hole.age >= (law == null ? 3 : held(law.value(hole.depth, hole.owner, 0), 99));
        }

        int sinks(Hole hole, int x) {
            switch (hole.kind) {
                case GRAVE: return sinksPlain(hole, x) + 1;
                case CRYPT: return 0;
                case POND: return Math.min(9, 2 * sinksPlain(hole, x));
                case DYKE: return Math.min(9, 2 * sinksPlain(hole, x)) / 2;
                case SHAFT: return x / 9;
                default: return sinksPlain(hole, x);
            }
        }

        int sinksPlain(Hole hole, int x) {
            Text settle = textFor(SETTLE);
            return settle == null ? x / 5 : held(settle.value(x, hole.depth, hole.age), 9);
        }

        void passDay() {
            for (int h = 0; h < holeCount; h++) {
                Hole hole = holes[h];
                if (hole.depth > 0) {
                    int less = Math.min(hole.depth, sinks(hole, draw() % 10));
                    hole.depth -= less;
                    lost += less;
                    hole.age = Math.min(LAST_AGE, hole.age + 1);
                }
            }
            day++;
        }

        int filledCount() {
            int filled = 0;
            for (int h = 0; h < holeCount; h++) {
                if (holes[h].depth == 0) {
                    filled++;
                }
            }
            return filled;
        }

        int depthSum() {
            int sum = 0;
            for (int h = 0; h < holeCount; h++) {
                sum += holes[h].depth;
            }
            return sum;
        }

        int debtOf(int owner) {
            int sum = 0;
            for (int h = 0; h < holeCount; h++) {
                if (holes[h].owner == owner) {
                    sum += holes[h].depth;
                }
            }
            return sum;
        }

        int fineOf(int owner) {
            Text fine = textFor(FINE);
            return fine == null ? debtOf(owner) : fine.value(debtOf(owner), lifted, 0);
        }

        Text findText(int text) {
            return text >= 0 && text < textCount ? texts[text] : null;
        }

        Text textFor(int key) {
            return findText(counting[key]);
        }

        int addText(Text text) {
            int number = textCount;
            if (number >= MOST_TEXTS || text.key < 0 || text.key >= KEYS) {
                return FULL;
            }
            texts[number] = text;
            counting[text.key] = number;
            textCount = number + 1;
            return number;
        }
    }

    /**
     * THE DEALING as the least price: an unmet WANT is dearer than all miles together, a mile dearer
     * than all numbers of HOLES, which stand as digits by 11, that of WANT 0 first (10: no HOLE).
     */
    private static final class Dealer {
        private static final long[] DIGITS = {161051L, 14641L, 1331L, 121L, 11L, 1L};
        private static final long MILE_PRICE = 1771561L, UNMET_PRICE = MILE_PRICE * 175L;
        private static final long NEVER = 1L << 62;

        private final long[] leastFor = new long[1 << MOST_WANTS];
        private final long[] prices = new long[MOST_WANTS];
        private int wants = 0;
        private long least = 0L;

        /** How many are MET, without a HOLE or a WANT where one is named. */
        int solve(Land land, int noHole, int noWant) {
            wants = land.wantCount;
            Arrays.fill(leastFor, NEVER);
            leastFor[0] = 0L;
            for (int w = 0; w < wants; w++) {
                leastFor[0] += UNMET_PRICE + MOST_HOLES * DIGITS[w];
            }
            for (int h = 0; h < land.holeCount; h++) {
                if (h != noHole) {
                    price(land, h, noWant);
                    offer();
                }
            }
            least = NEVER;
            for (int met = 0; met < leastFor.length; met++) {
                least = Math.min(least, leastFor[met]);
            }
            return wants - (int) (least / UNMET_PRICE);
        }

        private void price(Land land, int hole, int noWant) {
            for (int w = 0; w < wants; w++) {
                int from = land.wantPlaces[w];
                int earth = land.earthOf(land.wantSpades[w]);
                prices[w] = NEVER;
                if (w != noWant && land.canFill(land.holes[hole], earth, from)) {
                    int far = Math.abs(from - land.holes[hole].place);
                    prices[w] = far * MILE_PRICE - UNMET_PRICE + (hole - MOST_HOLES) * DIGITS[w];
                }
            }
        }

        /** From the greatest set down, so that no set is met with this HOLE twice. */
        private void offer() {
            for (int met = leastFor.length - 1; met >= 0; met--) {
                for (int w = 0; w < wants && leastFor[met] != NEVER; w++) {
                    int more = met | 1 << w;
                    if (more != met && prices[w] != NEVER) {
                        leastFor[more] = Math.min(leastFor[more], leastFor[met] + prices[w]);
                    }
                }
            }
        }

        int miles() {
            return (int) (least % UNMET_PRICE / MILE_PRICE);
        }

        int holeOf(int want) {
            if (want < 0 || want >= wants) {
                return NONE;
            }
            int hole = (int) (least % MILE_PRICE / DIGITS[want] % 11L);
            return hole == MOST_HOLES ? NONE : hole;
        }
    }

    /** A TEXT as a row of codes, each sign behind what it joins. */
    private static final class Text {
        private static final int FIRST = -1, SECOND = -2, THIRD = -3;

        private final int key;
        private final int pieces;
        private final int[] codes;
        private final int[] stack;

        Text(int key, int pieces, int[] codes) {
            this.key = key;
            this.pieces = pieces;
            this.codes = codes;
            this.stack = new int[codes.length];
        }

        int value(int first, int second, int third) {
            int top = 0;
            for (int i = 0; i < codes.length; i++) {
                int code = codes[i];
                if (code >= THIRD && top < stack.length) {
                    stack[top] = plain(code, first, second, third);
                    top++;
                } else if (code == -'!' && top >= 1) {
                    stack[top - 1] = stack[top - 1] == 0 ? 1 : 0;
                } else if (top >= 2) {
                    top--;
                    stack[top - 1] = joined(-code, stack[top - 1], stack[top]);
                }
            }
            return top >= 1 ? stack[top - 1] : 0;
        }

        private static int plain(int code, int first, int second, int third) {
            switch (code) {
                case FIRST: return first;
                case SECOND: return second;
                case THIRD: return third;
                default: return code;
            }
        }

        private static int joined(int sign, int a, int b) {
            switch (sign) {
                case '|': return a != 0 || b != 0 ? 1 : 0;
                case '&': return a != 0 && b != 0 ? 1 : 0;
                case '<': return a < b ? 1 : 0;
                case '=': return a == b ? 1 : 0;
                case '>': return a > b ? 1 : 0;
                case '+': return a + b;
                case '-': return a - b;
                case '*': return a * b;
                default: return b == 0 ? 0 : a / b;
            }
        }
    }

    /** It is read with one word or sign seen ahead; where that stops, at is the place of the FAULT. */
    private static final class Tape {
        private static final int END = -1, LETTERS = 256, DIGITS = 257, GLUED = 258;
        private static final int TESTS = 2, TIGHTEST = 4, MOST_OPEN = 8, MOST_DIGITS = 4;

        private final int[] bytes = new int[MOST_BYTES];
        private int length = 0;
        private int at = 0;
        private int end = 0;
        private int sign = END;
        private int key = 0;
        private int pieces = 0;
        private int openBrackets = 0;
        private int openNots = 0;
        private final int[] codes = new int[MOST_BYTES];
        private int codeCount = 0;

        void putBytes(int four) {
            for (int shift = 24; shift >= 0 && length < MOST_BYTES; shift -= 8) {
                bytes[length] = four >>> shift & 255;
                length++;
            }
        }

        Text read() {
            end = 0;
            sign = END;
            pieces = 0;
            openBrackets = 0;
            openNots = 0;
            codeCount = 0;
            step();
            key = keyHere();
            if (key < 0) {
                return null;
            }
            step();
            if (!joinedBy(0) || sign != END) {
                return null;
            }
            return new Text(key, pieces, Arrays.copyOf(codes, codeCount));
        }

        private void step() {
            boolean behindWord = sign == LETTERS || sign == DIGITS;
            int before = end;
            at = end;
            while (at < length && bytes[at] == ' ') {
                at++;
            }
            end = at;
            if (at >= length) {
                sign = END;
                return;
            }
            sign = sortOf(bytes[at]);
            end = at + 1;
            if (sign != LETTERS && sign != DIGITS) {
                return;
            }
            while (end < length && sortOf(bytes[end]) == sign) {
                end++;
            }
            if (behindWord && at == before) {
                sign = GLUED;
            }
        }

        private static int sortOf(int sign) {
            if (sign >= 'a' && sign <= 'z') {
                return LETTERS;
            }
            return sign >= '0' && sign <= '9' ? DIGITS : sign;
        }

        private int keyHere() {
            if (isHere("law")) {
                return LAW;
            }
            if (isHere("settle")) {
                return SETTLE;
            }
            return isHere("fine") ? FINE : -1;
        }

        private boolean isHere(String word) {
            if (sign != LETTERS || end - at != word.length()) {
                return false;
            }
            for (int i = 0; i < word.length(); i++) {
                if (bytes[at + i] != word.charAt(i)) {
                    return false;
                }
            }
            return true;
        }

        /** Level 0 is E; each level's parts are of the next, those of the tightest are PIECES. */
        private boolean joinedBy(int level) {
            if (!partOf(level)) {
                return false;
            }
            for (int i = 0; i < MOST_BYTES && joins(level); i++) {
                int joint = sign;
                step();
                if (!partOf(level)) {
                    return false;
                }
                put(-joint);
                if (level == TESTS) {
                    return true;
                }
            }
            return true;
        }

        private boolean partOf(int level) {
            return level >= TIGHTEST ? piece() : joinedBy(level + 1);
        }

        private boolean joins(int level) {
            switch (level) {
                case 0: return sign == '|';
                case 1: return sign == '&';
                case TESTS: return sign == '<' || sign == '=' || sign == '>';
                case 3: return sign == '+' || sign == '-';
                default: return sign == '*' || sign == '/';
            }
        }

        private boolean piece() {
            switch (sign) {
                case DIGITS: return number();
                case LETTERS: return name();
                case '!': return not();
                case '(': return brackets();
                default: return false;
            }
        }

        private boolean number() {
            if (end - at > MOST_DIGITS) {
                return false;
            }
            int v = 0;
            for (int i = at; i < end; i++) {
                v = v * 10 + bytes[i] - '0';
            }
            put(v);
            pieces++;
            step();
            return true;
        }

        private boolean name() {
            int index = end - at == 1 ? namesOf(key).indexOf((char) bytes[at]) : -1;
            if (index < 0) {
                return false;
            }
            put(Text.FIRST - index);
            pieces++;
            step();
            return true;
        }

        private static String namesOf(int key) {
            switch (key) {
                case LAW: return "do";
                case SETTLE: return "xda";
                default: return "el";
            }
        }

        private boolean not() {
            if (openNots >= MOST_OPEN) {
                return false;
            }
            openNots++;
            step();
            if (!piece()) {
                return false;
            }
            openNots--;
            put(-'!');
            return true;
        }

        private boolean brackets() {
            if (openBrackets >= MOST_OPEN) {
                return false;
            }
            openBrackets++;
            step();
            if (!joinedBy(0) || sign != ')') {
                return false;
            }
            openBrackets--;
            step();
            return true;
        }

        private void put(int code) {
            if (codeCount < codes.length) {
                codes[codeCount] = code;
                codeCount++;
            }
        }
    }

    /** In a row of floats NONE stands for NO NUMBER: no number there comes near it. */
    private static final class Sheet {
        private int sort = MISSING;
        private int size = 0;
        private final int[] places = new int[MOST_PLACES];

        void clear(int newSort, int newSize) {
            sort = newSort;
            size = newSize;
            Arrays.fill(places, 0);
        }

        void become(Sheet other) {
            sort = other.sort;
            size = other.size;
            System.arraycopy(other.places, 0, places, 0, MOST_PLACES);
        }

        boolean has(int place) {
            return place >= 0 && place < size;
        }

        boolean hasAll(int from, int many) {
            return from >= 0 && many >= 0 && from <= size && many <= size - from;
        }

        boolean isNumber(int place) {
            return has(place) && places[place] != NONE;
        }
    }

    private static final class Slot {
        private int thing = EMPTY;
        private int number = 0;
        private final Hole hole = new Hole();
        private final Sheet row = new Sheet();
    }
}
