import java.util.ArrayList;
import java.util.List;

/**
 * Every call with all combinations of numbers at and beside the edges of its ranges, in a new, a busy and a full
 * hall: the answers are compared with those of Model, and a refused call must leave no trace.
 */
public final class SweepTest {
    private static final String FAR = "MIN -2147483647 -65536 -2 -1 2147483646 MAX";

    private final String start;
    private final String untouched;
    private int answered;
    private int refused;

    private SweepTest(String start) {
        this.start = start;
        untouched = Probe.of(hall());
    }

    public static void main(String[] args) {
        for (String start : new String[] {Halls.NEW, Halls.BUSY, Halls.FULL}) {
            SweepTest test = new SweepTest(start);
            test.hallAndOrders();
            test.batchesAndRoutes();
            test.others();
            Check.same("some calls are answered", 1, test.answered > 100 ? 1 : 0);
            Check.same("some calls are refused", 1, test.refused > 1000 ? 1 : 0);
            System.out.println(test.answered + " calls answered, " + test.refused + " refused");
        }
        Check.end("SweepTest");
    }

    private PickHall hall() {
        PickHall x = new PickHall();
        begin(x);
        return x;
    }

    private Model modelled() {
        Model x = new Model();
        begin(x);
        return x;
    }

    private void begin(Object x) {
        for (String call : start.split("\n")) {
            if (!call.isBlank()) {
                Calls.answer(x, call);
            }
        }
    }

    /** All combinations of the numbers that each text has for its parameter. */
    private void sweep(String name, String... numbers) {
        List<String> calls = new ArrayList<>(List.of(name));
        for (String choice : numbers) {
            List<String> longer = new ArrayList<>();
            for (String call : calls) {
                for (String number : choice.split(" ")) {
                    longer.add(call + " " + number);
                }
            }
            calls = longer;
        }
        PickHall touched = hall();
        for (String call : calls) {
            compare(touched, call);
        }
        Check.same("the hall behind all refused calls of " + name, untouched, Probe.of(touched));
    }

    /** A call that is refused is made in the same hall as the others, one that is answered in a new one. */
    private void compare(PickHall touched, String call) {
        Model changed = modelled();
        String due = Calls.answer(changed, call);
        if (Calls.isRefusal(due)) {
            refused++;
            Check.same(call, due, Calls.answer(touched, call));
            return;
        }
        answered++;
        PickHall x = hall();
        Check.same(call, due, Calls.answer(x, call));
        for (String after : new String[] {"itemCount", "orderCount", "batchCount", "totalTardiness", "makespan",
            "savedDistance", "totalPicked", "totalOrdered", "lateOrders"}) {
            changed.forget();
            Check.same(call + ", then " + after, Calls.answer(changed, after), Calls.answer(x, after));
        }
    }

    private void hallAndOrders() {
        String orders = FAR + " 0 1 2 3 4 5 6 7 8 9 10 11 15 16";
        String items = FAR + " 0 5 6 23 24";
        String dues = FAR + " 0 1 9998 9999 10000";
        sweep("setLayout", "MIN -1 0 1 5 6 7 MAX", "MIN 0 1 2 3 19 20 21 MAX", "MIN -1 0 1 8 9 10 MAX");
        sweep("addItem", "MIN -1 0 3 4 5 6 MAX", "MIN 0 1 10 11 20 21 MAX", "MIN 0 1 50 51 MAX", "MIN -1 0 999 1000 MAX");
        sweep("stock", items);
        sweep("restock", items + " 1 2", FAR + " 0 1 2 3 4 99 100 998 999 1000");
        sweep("addOrder", dues);
        sweep("addLine", orders, items + " 1 2 10", "MIN -1 0 1 99 100 MAX");
        for (String name : new String[] {"orderState", "lineCount", "due", "orderWeight", "orderAisles", "cancel", "lateness"}) {
            sweep(name, orders);
        }
        sweep("setDue", orders, dues);
        sweep("pickedUnits", orders, FAR + " 0 1 2 5 6");
        sweep("shortUnits", orders, FAR + " 0 1 2 5 6");
        sweep("reorder", orders, dues);
    }

    private void batchesAndRoutes() {
        String batches = FAR + " 0 1 2 7 8";
        String zones = FAR + " 0 1 2 3";
        sweep("makeBatches", "MIN -1 0 1 2 6 7 MAX", "MIN -1 0 1 10 4950 29700 99999 100000 MAX", "MIN -1 0 1 2 3 MAX");
        sweep("addBatch", FAR + " 0 1 2 3 8 32 64 128 256 257 258 512 513 1024 2048 4096 32768 65535 65536 65537 1073741824");
        sweep("improve", "MIN -1 0 1 2 6 7 MAX", "MIN -1 0 1 500 99999 100000 MAX");
        sweep("sortBatches", FAR + " 0 1 2 3");
        for (String name : new String[] {"dissolve", "batchOrders", "batchWeight", "batchRoute", "bestPolicy"}) {
            sweep(name, batches);
        }
        sweep("routeLength", batches, zones, FAR + " 0 1 2 3 4");
        sweep("stopItem", batches, zones, FAR + " 0 1 2 3 4 23 24");
        for (String name : new String[] {"stopCount", "workTime", "startTime", "leaveTime"}) {
            sweep(name, batches, zones);
        }
        sweep("blockedTime", zones);
        sweep("zoneOf", FAR + " 0 1 3 4 5 6");
    }

    private void others() {
        sweep("setPolicy", FAR + " 0 1 2 3 4");
        sweep("setZones", FAR + " 0 1 2 3 4 5 6", FAR + " 0 1 2 3 4 5 6");
        sweep("setBuffer", FAR + " 0 1 2", FAR + " 0 1 4 5");
        sweep("setTimes", FAR + " 0 1 99 100", FAR + " 0 1 99 100");
        sweep("appendText", FAR + " 0 1 1751215468");
        sweep("truncateText", FAR + " 0 1 7 8 9 599 600 601");
        sweep("save", FAR + " 0 1 2");
        sweep("restore", FAR + " 0 1 2");
        for (String name : new String[] {"aisleCount", "itemCount", "orderCount", "batchCount", "savedDistance", "makespan",
            "lateOrders", "totalTardiness", "meanTardinessNumerator", "meanTardinessDenominator", "pickBatch",
            "totalOrdered", "totalPicked", "load", "errorCode", "errorPosition"}) {
            sweep(name);
        }
    }
}
