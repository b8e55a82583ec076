import java.lang.reflect.Method;
import java.util.ArrayList;
import java.util.List;

/** Long runs of drawn calls: the program and the model answer each alike. The draws are the same each time. */
final class ModelTest {
    /** Each call with the sorts of its arguments, as argument() draws them. */
    private static final String[] CALLS = {
        "hole kind place depth owner", "hole kind place depth owner", "told hole 0:5", "as hole kind", "turns hole kind",
        "set hole 1:4 age", "set hole 1:4 age", "settles hole 0:9", "rule 0:0 place", "rule 1:1 50:200", "deal 1:10",
        "seed any", "takes place spades", "takes place few", "dig place few hole owner", "dig place spades hole owner",
        "dig place few hole owner", "want place few", "want place spades", "want place few", "forget", "dealing 0:7",
        "dealing 0:7", "adds hole", "frees place", "frees place", "days 1:100", "days 1:5", "behind 0:100 0:2",
        "behind 0:20 0:2", "paid", "best 0:30 0:1", "owes owner", "debtor", "dug sheet 0:1", "fine owner",
        "feed any any any", "trim 0:96", "text", "textTold 0:13 0:1", "why 0:2", "sheet sheet -1:1 0:24",
        "sheet sheet 0:1 0:12", "mark sheet 0:11 depth", "mark sheet 0:11 float", "mark sheet 0:23 any",
        "mark sheet 0:11 depth", "pour sheet", "reads sheet", "copy sheet 0:12 sheet 0:12 0:8", "lay slot 0:3 0:9",
        "lay slot 1:1 hole", "lay slot 2:2 sheet", "lay slot 3:3 any", "ask slot kind", "item slot 0:11", "rest slot 1:99",
        "rest slot any", "tell depth", "check 1:30", "keep", "back", "count 0:12"};

    private final Due due;
    private final long[] z = {1};
    private DigFill x;
    private Model model;
    private StringBuilder run;

    private ModelTest(Due due, long seed) {
        this.due = due;
        z[0] = seed;
    }

    public static void main(String[] args) throws ReflectiveOperationException {
        int runs = args.length > 0 ? Integer.parseInt(args[0]) : 400;
        Due due = new Due("ModelTest");
        for (int run = 0; run < runs; run++) {
            new ModelTest(due, run * 7919L + 17).run();
        }
        due.end();
    }

    private int drawn(int n) {
        z[0] = z[0] * 6364136223846793005L + 1442695040888963407L;
        return (int) ((z[0] >>> 33) % n);
    }

    private int between(int from, int to) {
        return from + drawn(to - from + 1);
    }

    private void run() throws ReflectiveOperationException {
        x = new DigFill();
        model = new Model();
        run = new StringBuilder();
        boolean odd = drawn(3) == 0; // arguments beyond their bounds come in some runs alone
        List<String> likely = new ArrayList<>();
        for (String call : CALLS) {
            for (int i = drawn(4); i >= 0; i--) {
                likely.add(call);
            }
        }
        for (int calls = 0; calls < 480; ) {
            int sort = drawn(40);
            if (sort == 0) {
                calls += tellText();
            } else if (sort == 1) {
                calls += tellDays();
            } else {
                String[] call = likely.get(drawn(likely.size())).split(" ");
                call(call[0], arguments(call, odd && drawn(4) == 0));
                calls++;
            }
        }
        for (int what = 0; what <= 12; what++) {
            call("count", what);
        }
        for (int hole = 0; hole < 10; hole++) {
            call("told", hole, drawn(6));
        }
    }

    private int[] arguments(String[] call, boolean odd) {
        int[] arguments = new int[call.length - 1];
        int other = odd && arguments.length > 0 ? drawn(arguments.length) : -1;
        for (int i = 0; i < arguments.length; i++) {
            arguments[i] = i == other ? oddOne(call[i + 1]) : argument(call[i + 1]);
        }
        return arguments;
    }

    private int[] bounds(String sort) {
        switch (sort) {
            case "kind": return new int[] {0, 5};
            case "place": return new int[] {0, 29};
            case "depth": return new int[] {0, 99};
            case "owner": return new int[] {0, 7};
            case "hole": return new int[] {0, Math.max(0, model.count(0) - 1)};
            case "spades": return new int[] {1, 99};
            case "few": return new int[] {1, 20};
            case "sheet": return new int[] {0, 3};
            case "slot": return new int[] {0, 4};
            case "float": return new int[] {-99999, 99999};
            case "any": return new int[] {Integer.MIN_VALUE, Integer.MAX_VALUE};
            default:
                String[] ends = sort.split(":");
                return new int[] {Integer.parseInt(ends[0]), Integer.parseInt(ends[1])};
        }
    }

    private int argument(String sort) {
        if (sort.equals("any")) {
            int[] some = {drawn(100), drawn(65536) - 32768, (int) z[0], -drawn(9), Model.NONE, Integer.MIN_VALUE, -1};
            return some[drawn(some.length)];
        }
        if (sort.equals("age")) {
            int[] some = {drawn(8), drawn(30), drawn(100), drawn(1000)};
            return some[drawn(some.length)];
        }
        int[] bounds = bounds(sort);
        return between(bounds[0], bounds[1]);
    }

    private int oddOne(String sort) {
        int[] bounds = sort.equals("age") ? new int[] {0, 999} : bounds(sort);
        int[] some = {bounds[0] - 1, bounds[1] + 1, bounds[0], bounds[1], Integer.MIN_VALUE, Integer.MAX_VALUE, Model.NONE, 0};
        return some[drawn(some.length)];
    }

    private int call(String name, int... arguments) throws ReflectiveOperationException {
        Class<?>[] sorts = new Class<?>[arguments.length];
        Object[] given = new Object[arguments.length];
        for (int i = 0; i < arguments.length; i++) {
            sorts[i] = int.class;
            given[i] = arguments[i];
        }
        Method program = DigFill.class.getMethod(name, sorts);
        Method models = Model.class.getDeclaredMethod(name, sorts);
        int want = (Integer) models.invoke(model, given);
        int got = (Integer) program.invoke(x, given);
        run.append(name).append(java.util.Arrays.toString(arguments)).append(' ');
        due.is(got == want ? name : run.toString(), want, got);
        return want;
    }

    private int tellDays() throws ReflectiveOperationException {
        int n = between(1, 12);
        List<Integer> told = model.daysTold(n);
        int fault = drawn(3);
        int at = drawn(told.size() + 1);
        int calls = 1;
        for (int i = 0; i < told.size() && (fault != 0 || i < at); i++) {
            call("tell", told.get(i) + (fault == 1 && i == at ? 1 : 0));
            calls++;
        }
        if (drawn(8) == 0) {
            call("tell", drawn(3));
            calls++;
        }
        call("check", n);
        return calls;
    }

    private int tellText() throws ReflectiveOperationException {
        if (drawn(3) > 0) {
            call("trim", 0);
        }
        int held = model.count(11);
        int key = drawn(3);
        StringBuilder t = new StringBuilder(new String[] {"law", "settle", "fine"}[key]);
        t.append(" ".repeat(drawn(12) == 0 ? drawn(2) : 1));
        write(t, new String[] {"do", "xda", "el"}[key], drawn(12) == 0 ? 12 : drawn(5));
        if (drawn(3) == 0) {
            spoil(t);
        }
        String text = t.toString();
        int calls = 2;
        for (int i = 0; i < text.length(); i += 12) {
            call("feed", Due.four(text, i), Due.four(text, i + 4), Due.four(text, i + 8));
            calls++;
        }
        call("trim", Math.min(held + text.length(), model.count(11)));
        call("text");
        return calls;
    }

    private void write(StringBuilder t, String names, int deep) {
        if (drawn(8) == 0) {
            t.append(" ".repeat(drawn(3)));
        }
        int sort = deep <= 0 ? drawn(2) : drawn(9);
        if (sort == 0) {
            t.append(drawn(new int[] {10, 100, 10000, 3}[drawn(4)]));
        } else if (sort == 1) {
            t.append(names.charAt(drawn(names.length())));
        } else if (sort == 2) {
            t.append('!');
            write(t, names, deep - 1);
        } else if (sort == 3) {
            t.append('(');
            write(t, names, deep - 1);
            t.append(')');
        } else {
            write(t, names, deep - 2);
            t.append("|&<=>+-*/+-*/".charAt(drawn(13)));
            write(t, names, deep - 1);
        }
    }

    private void spoil(StringBuilder t) {
        int at = drawn(t.length());
        switch (drawn(4)) {
            case 0: t.deleteCharAt(at); break;
            case 1: t.setLength(at); break;
            case 2: t.setCharAt(at, " !()|&<=>+-*/x9ed0".charAt(drawn(18))); break;
            default: t.insert(at, " !()|&<=>+-*/x9ed~".charAt(drawn(18))); break;
        }
    }
}
