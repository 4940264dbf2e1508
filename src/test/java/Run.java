import java.util.ArrayList;
import java.util.List;
import java.util.Map;
import java.util.TreeSet;

/** A new hall and calls on it, each of which is checked; a label tells the sentence that they are about. */
final class Run {
    static final String INDEX = "IndexOutOfBoundsException";
    static final String ARGUMENT = "IllegalArgumentException";
    static final String STATE = "IllegalStateException";

    private final PickHall hall = new PickHall();
    private final List<String> calls = new ArrayList<>();

    /** The script has a call in each line; none of them may be refused. */
    static Run of(String script) {
        return new Run().then(script);
    }

    Run then(String script) {
        for (String call : script.split("\n")) {
            if (!call.isBlank()) {
                String answer = Calls.answer(hall, call);
                Check.same(label(call) + " is refused", 0, Calls.isRefusal(answer) ? 1 : 0);
                calls.add(call);
            }
        }
        return this;
    }

    /** Another hall with the same calls. */
    Run copy() {
        Run copy = new Run();
        for (String call : calls) {
            Calls.answer(copy.hall, call);
            copy.calls.add(call);
        }
        return copy;
    }

    /** The answer of a call that may change the hall or be refused. */
    String ask(String call) {
        String answer = Calls.answer(hall, call);
        calls.add(call);
        return answer;
    }

    int number(String call) {
        return Integer.parseInt(ask(call));
    }

    /** All that the calls without effect tell. */
    String look() {
        return Snapshot.of(hall);
    }

    /** All that can be seen of this hall, by means of a copy. */
    String probe() {
        return Probe.of(copy().hall);
    }

    private static String label(String call) {
        return "[" + Sentences.current() + "] " + call;
    }

    Run is(String call, int due) {
        Check.same(label(call), Integer.toString(due), Calls.answer(hall, call));
        calls.add(call);
        return this;
    }

    /** The same call for 0, 1, .. in the place of # answers these numbers. */
    Run are(String call, int... due) {
        for (int k = 0; k < due.length; k++) {
            is(call.replace("#", Integer.toString(k)), due[k]);
        }
        return this;
    }

    /** The call throws just this exception, and no call can tell afterwards that it was made. */
    Run refuses(String call, String kind) {
        Run touched = copy();
        Check.same(label(call), kind, Calls.answer(touched.hall, call));
        Check.same(label(call) + ": the hall behind it", probe(), Probe.of(touched.hall));
        Check.same(label(call) + " once more", kind, Calls.answer(hall, call));
        return this;
    }

    /**
     * The call changes just these facts, and no others; "order 3 *" stands for those whose names begin like this.
     */
    Run changes(String call, String... names) {
        Map<String, String> before = Facts.of(copy());
        then(call);
        Map<String, String> after = Facts.of(copy());
        TreeSet<String> changed = new TreeSet<>(before.keySet());
        changed.addAll(after.keySet());
        changed.removeIf(fact -> before.getOrDefault(fact, "").equals(after.getOrDefault(fact, "")));
        TreeSet<String> told = new TreeSet<>();
        for (String fact : changed) {
            String name = fact;
            for (String one : names) {
                boolean stands = one.endsWith("*") && fact.startsWith(one.substring(0, one.length() - 1));
                name = stands ? one : name;
            }
            told.add(name);
        }
        Check.same(label(call) + " changes", new TreeSet<>(List.of(names)).toString(), told.toString());
        return this;
    }

    /** The call is answered, and no other call can tell afterwards that it was made. */
    Run keeps(String call) {
        Run touched = copy();
        Check.same(label(call) + " is refused", 0, Calls.isRefusal(touched.ask(call)) ? 1 : 0);
        Check.same(label(call) + ": the hall behind it", probe(), Probe.of(touched.hall));
        return this;
    }

    /** From low to high the number in the place of # is taken; beside them, and far away, it is refused. */
    Run range(String call, int low, int high, String kind) {
        for (int good : new int[] {low, high}) {
            copy().then(call.replace("#", Integer.toString(good)));
        }
        for (int bad : new int[] {low - 1, high + 1, Integer.MIN_VALUE, Integer.MAX_VALUE}) {
            refuses(call.replace("#", Integer.toString(bad)), kind);
        }
        return this;
    }

    /** No number in the place of # is taken. */
    Run noneOf(String call, String kind) {
        for (int bad : new int[] {-1, 0, 1, Integer.MIN_VALUE, Integer.MAX_VALUE}) {
            refuses(call.replace("#", Integer.toString(bad)), kind);
        }
        return this;
    }

    /** Batch by batch, the orders as bit masks. */
    Run batches(int... due) {
        return is("batchCount", due.length).are("batchOrders #", due);
    }

    /** The items at the stops of a batch in a zone. */
    Run stops(int batch, int zone, int... due) {
        String where = " " + batch + " " + zone;
        is("stopCount" + where, due.length).are("stopItem" + where + " #", due);
        return refuses("stopItem" + where + " " + due.length, INDEX);
    }

    /** The lengths of the route of a batch in a zone by the four policies. */
    Run lengths(int batch, int zone, int... due) {
        return are("routeLength " + batch + " " + zone + " #", due);
    }
}
