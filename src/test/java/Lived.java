import java.util.ArrayList;
import java.util.List;

/** Programs that have some of everything, and all that can be read off a program: two that are alike tell the same. */
final class Lived {
    private Lived() {
    }

    /** Four numbers wait, THE DAYS TOLD of 2; THE TAPE holds a TEXT. More calls may follow. */
    static DigFill made(String... more) {
        DigFill x = Edges.made("seed 77", "deal 4", "hole 1 5 30 2", "hole 3 6 12 1", "hole 4 9 40 7", "hole 0 5 0 3", "set 4 4 5",
            "want 5 10", "want 9 3", "rule 0 12", "rule 1 110", "say law 2", "say settle x/3", "say fine e+l", "days 2", "keep");
        for (int day = 0; day < 2; day++) {
            x.days(1);
            x.tell(x.count(4));
            x.tell(x.count(1));
        }
        String[] then = {
            "dig 5 10 4 6", "set 5 1 7", "want 8 2", "rule 0 9", "say law 4", "sheet 0 0 5", "mark 0 1 7", "mark 0 4 -3", "sheet 1 1 4",
            "mark 1 2 NONE", "mark 1 0 300", "lay 0 1 4", "lay 1 2 0", "lay 2 3 99", "lay 3 2 1", "days 1"};
        for (String call : then) {
            Edges.answer(x, call);
        }
        Due.feed(x, "fine 1000*e+l");
        for (String call : more) {
            Edges.answer(x, call);
        }
        return x;
    }

    /** The call on one of two that are alike: they are alike still. */
    static void changesNothing(Edges e, String call, String... more) {
        DigFill x = made(more);
        Edges.answer(x, call);
        List<String> calls = new ArrayList<>();
        List<Long> got = read(x, calls);
        List<Long> want = read(made(more), new ArrayList<>());
        for (int i = 0; i < got.size(); i++) {
            e.is(calls.get(i) + " behind " + call, want.get(i), got.get(i));
        }
    }

    /** Ends in using up what waits, what stands on the tape, and going back to the image. */
    private static List<Long> read(DigFill x, List<String> calls) {
        for (String call : new String[] {"dealing 0", "dealing 1", "dealing 2", "takes 5 10", "frees 3", "behind 7 1", "paid", "debtor"}) {
            calls.add(call);
        }
        addState(calls);
        add(calls, 14, "textTold ? 0", "textTold ? 1");
        add(calls, 3, "why ?");
        add(calls, 5, "rest ? 1000007", "ask ? 0", "item ? 0", "item ? 1", "item ? 2", "item ? 4");
        for (int sheet = 0; sheet < 4; sheet++) {
            calls.add("lay 4 2 " + sheet);
            add(calls, 8, "item 4 ?");
        }
        calls.add("check 2");
        calls.add("text");
        add(calls, 8, "fine ?");
        calls.add("back");
        addState(calls);
        add(calls, 8, "fine ?");
        List<Long> answers = new ArrayList<>();
        for (String call : calls) {
            answers.add(Edges.answer(x, call));
        }
        return answers;
    }

    private static void addState(List<String> calls) {
        add(calls, 13, "count ?");
        add(calls, 10, "told ? 0", "told ? 1", "told ? 2", "told ? 3", "told ? 4");
    }

    private static void add(List<String> calls, int n, String... some) {
        for (int i = 0; i < n; i++) {
            for (String call : some) {
                calls.add(call.replace("?", Integer.toString(i)));
            }
        }
    }
}
