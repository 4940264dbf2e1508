import java.util.List;

/** What each call changes, and that it leaves everything else as it was; a call that only asks changes nothing. */
public final class EffectsTest {
    /** Without items: three zones, an order, settings, a saved state, an error and a text. */
    private static final String BARE = """
            setLayout 5 10 2
            setZones 1 3
            addOrder 7
            setPolicy 2
            setTimes 3 4
            setBuffer 0 0
            setBuffer 1 3
            save 0
            text hall 9
            load
            text hall 3
            """;

    public static void main(String[] args) {
        hallAndItems();
        orders();
        batches();
        sequences();
        settings();
        picking();
        texts();
        loads();
        savedStates();
        questions(Halls.BUSY);
        questions(Halls.FULL);
        Check.end("EffectsTest");
    }

    private static void hallAndItems() {
        Run.of(BARE).changes("setLayout 3 7 5", "aisles", "depth", "width", "zones").changes("setLayout 3 7 5")
                .changes("setLayout 3 8 5", "depth").changes("setLayout 3 8 4", "width").then("setZones 2 -1")
                .changes("setLayout 3 8 4", "zones").changes("setLayout 6 8 4", "aisles", "zones");
        Run.of(Halls.NEW).changes("addItem 3 10 50 999", "item 0 *").changes("addItem 3 10 50 0", "item 1 *");
        Run.of(Halls.BUSY).changes("addItem 4 9 8 7", "item 6 *").changes("restock 1 5", "item 1 stock")
                .changes("restock 6 992", "item 6 stock");
        Run.of(Halls.FULL).changes("restock 0 999", "item 0 stock");
    }

    private static void orders() {
        Run.of(BARE).changes("addOrder 0", "order 1 *");
        Run.of(Halls.BUSY).changes("addOrder 9999", "order 9 *").changes("addLine 9 5 3", "order 9 lines")
                .changes("addLine 8 2 99", "order 8 lines").changes("setDue 9 9998", "order 9 due")
                .changes("setDue 3 0", "order 3 due").changes("setDue 3 0")
                .changes("cancel 9", "order 9 state").changes("cancel 6", "order 6 state")
                .changes("cancel 3", "order 3 state", "batches").changes("cancel 4", "order 4 state", "batches")
                .changes("cancel 5", "order 5 state", "batches");
        Run.of(Halls.FULL).changes("addLine 10 0 1", "order 10 lines").changes("cancel 7", "order 7 state", "batches");
    }

    private static void batches() {
        Run.of(Halls.BUSY).changes("makeBatches 6 99999 2", "order 8 state", "batches").changes("makeBatches 6 99999 1")
                .changes("dissolve 0", "order 3 state", "order 4 state", "batches")
                .changes("addBatch 8", "order 3 state", "batches")
                .changes("makeBatches 1 99999 0", "order 4 state", "batches")
                .changes("dissolve 1", "order 8 state", "batches").changes("makeBatches 1 1 0");
        // No room for a batch, then room for one: of the orders 9, 10 and 12 to 15 the last one is due first.
        Run.of(Halls.FULL).changes("makeBatches 6 99999 0").then("cancel 0")
                .changes("makeBatches 1 99999 0", "order 15 state", "batches").changes("dissolve 7", "order 15 state", "batches");
        // One zone and LARGEST GAP: order 5 is 6 away alone, and makes the other batch longer by 2.
        Run.of(Halls.BUSY).changes("improve 6 99999").then("setZones -1 -1").changes("improve 6 1")
                .changes("improve 6 99999", "batches").batches(56).changes("improve 6 99999");
    }

    private static void sequences() {
        // Due are 10 and 9999, and the work is 39 + 33 and 16; the first batch ends at 72 or, behind the other one, at 88.
        Run.of(Halls.BUSY).changes("sortBatches 0").changes("sortBatches 1", "batches").batches(32, 24)
                .changes("sortBatches 1").changes("sortBatches 2", "batches").batches(24, 32).changes("sortBatches 2")
                .then("setDue 5 9").changes("sortBatches 0", "batches").batches(32, 24)
                .then("setDue 5 11").changes("sortBatches 0", "batches").batches(24, 32)
                // The second batch ends at 72, and at 16 if it is first: 5 + 58 + 78 is less than 42 + 62 + 61.
                .changes("sortBatches 2", "batches").batches(32, 24);
        Run.of(Halls.FULL).changes("sortBatches 0", "batches").batches(128, 64, 32, 16, 8, 4, 2, 1);
    }

    private static void settings() {
        Run.of(Halls.BUSY).changes("setPolicy 3", "policy").changes("setPolicy 3").changes("setZones 1 4", "zones")
                .changes("setZones -1 -1", "zones").changes("setBuffer 0 4", "buffer 0").changes("setBuffer 1 0", "buffer 1")
                .changes("setBuffer 1 0").changes("setTimes 7 4", "times").changes("setTimes 8 4", "times")
                .changes("setTimes 8 4");
        Run.of(BARE).changes("setPolicy 0", "policy").changes("setZones 4 -1", "zones").changes("setBuffer 1 4", "buffer 1")
                .changes("setTimes 99 99", "times");
    }

    private static void picking() {
        // Order 5 wants 99 units of item 0, of which there are none.
        Run.of(Halls.BUSY).changes("pickBatch", "batches", "order 3 state", "order 3 picked", "order 4 state",
                        "order 4 picked", "item 2 stock", "item 3 stock", "item 4 stock", "item 5 stock")
                .changes("pickBatch", "batches", "order 5 state", "order 5 picked", "order 5 again")
                .changes("reorder 2 77", "order 2 again", "order 9 *").changes("reorder 5 78", "order 5 again", "order 10 *")
                .changes("restock 0 9", "item 0 stock");
    }

    private static void texts() {
        Run.of(Halls.BUSY).changes("appendText 0", "text").changes("truncateText 12").changes("truncateText 11", "text")
                .changes("truncateText 0", "text").changes("appendText -1", "text");
        Run.of(Halls.FULL).changes("truncateText 599", "text").changes("truncateText 599");
    }

    private static void loads() {
        // The text of BUSY is "hall 1 2", which ends too early at 8; its error was 2 at 5.
        Run.of(Halls.BUSY).changes("load", "text", "error").changes("load", "error").changes("load");
        Run.of(Halls.FULL).changes("load", "text", "error").is("errorCode", 1).is("errorPosition", 19);
        // All that the setup says, and all that it does not say; the saved states stay.
        Run.of(Halls.BUSY).then("truncateText 0\ntext hall 6 20 9;item 5 20 50 9;order 3 line 0 4;")
                .changes("load", "text", "error", "aisles", "depth", "width", "zones", "policy", "times", "buffer 0", "buffer 1",
                        "item *", "order *", "batches");
        Run.of(BARE).then("truncateText 0\ntext hall 5 10 2;").changes("load", "text", "error", "zones", "policy", "times",
                "buffer 0", "buffer 1", "order 0 *");
        Run.of(BARE).then("truncateText 0\ntext hall 5 10 2;zones 1 3;policy gap;times 3 4;buffer 0 0;buffer 1 3;order 7;")
                .changes("load", "text", "error");
    }

    private static void savedStates() {
        Run.of(Halls.BUSY).changes("save 1", "slot 1").changes("save 1").changes("save 0", "slot 0").changes("restore 0")
                .changes("restore 1").then("setPolicy 1").changes("save 1", "slot 1").changes("restore 0", "policy")
                .changes("restore 1", "policy");
        // The state in slot 0 of BUSY is older than the first pick: neither the text nor the error comes back with it.
        Run.of(Halls.BUSY).changes("restore 0", "policy", "times", "buffer 0", "buffer 1", "batches", "order 0 state",
                "order 0 picked", "order 1 state", "order 1 picked", "order 2 *", "order 5 state", "order 7 state", "order 8 *",
                "item 0 stock", "item 2 stock");
    }

    /** The calls that only ask, each with all numbers of its ranges. */
    private static void questions(String hall) {
        Run x = Run.of(hall);
        for (String call : List.of("aisleCount", "itemCount", "orderCount", "batchCount", "savedDistance", "makespan",
                "lateOrders", "totalTardiness", "meanTardinessNumerator", "meanTardinessDenominator", "totalOrdered",
                "totalPicked", "errorCode", "errorPosition")) {
            x.keeps(call);
        }
        forEach(x, "stock #", "itemCount");
        forEach(x, "zoneOf #", "aisleCount");
        for (String name : List.of("orderState", "lineCount", "due", "orderWeight", "orderAisles")) {
            forEach(x, name + " #", "orderCount");
        }
        for (String name : List.of("batchOrders", "batchWeight", "batchRoute", "bestPolicy")) {
            forEach(x, name + " #", "batchCount");
        }
        for (int zone = 0; zone < 3; zone++) {
            x.keeps("blockedTime " + zone);
            for (String name : List.of("stopCount", "workTime", "startTime", "leaveTime")) {
                forEach(x, name + " # " + zone, "batchCount");
            }
            for (int policy = 0; policy < 4; policy++) {
                forEach(x, "routeLength # " + zone + " " + policy, "batchCount");
            }
        }
        stops(x);
        lines(x);
    }

    private static void forEach(Run x, String call, String count) {
        int numbers = x.number(count);
        for (int k = 0; k < numbers; k++) {
            x.keeps(call.replace("#", Integer.toString(k)));
        }
    }

    private static void stops(Run x) {
        for (int batch = 0; batch < x.number("batchCount"); batch++) {
            for (int zone = 0; zone < 3; zone++) {
                forEach(x, "stopItem " + batch + " " + zone + " #", "stopCount " + batch + " " + zone);
            }
        }
    }

    private static void lines(Run x) {
        for (int order = 0; order < x.number("orderCount"); order++) {
            forEach(x, "pickedUnits " + order + " #", "lineCount " + order);
            forEach(x, "shortUnits " + order + " #", "lineCount " + order);
            if (x.ask("orderState " + order).equals("1")) {
                x.keeps("lateness " + order);
            }
        }
    }
}
