/** The sentences about the orders and their lines: promises 8 to 17. */
final class OrderSentences {
    private static final String SECTION = "ORDERS";

    private OrderSentences() {
    }

    static void run() {
        ordersAndLines();
        promise8();
        promise9();
        promise9Refused();
        promise10To13();
        promise14();
        promise15And16();
        promise17();
        promise8And9Plain();
        promise14Plain();
        whichOrder();
    }

    private static void ordersAndLines() {
        Sentences.test(SECTION, "There are at most 16 orders, numbered from 0.");
        Run x = Run.of(Halls.NEW);
        for (int order = 0; order < 16; order++) {
            x.is("addOrder " + order, order);
        }
        x.is("orderCount", 16).refuses("addOrder 16", Run.STATE).is("due 0", 0).is("due 15", 15)
                .refuses("due 16", Run.INDEX);

        Sentences.test(SECTION, "An order has a due time (0 to 9999), at most 6 lines, numbered from 0, and a state");
        Run y = Run.of("addItem 0 1 1 1\n".repeat(7)).is("addOrder 0", 0).is("addOrder 9999", 1)
                .refuses("addOrder -1", Run.ARGUMENT).refuses("addOrder 10000", Run.ARGUMENT).is("orderState 0", 0);
        for (int line = 0; line < 6; line++) {
            y.is("addLine 0 " + line + " 1", line);
        }
        y.refuses("addLine 0 6 1", Run.STATE).is("lineCount 0", 6).is("addLine 1 6 1", 0)
                .then("addBatch 3").are("orderState #", 1, 1).then("cancel 1").is("orderState 1", 3)
                .then("pickBatch").are("orderState #", 2, 3);

        Sentences.test(SECTION, "A line consists of an item and a quantity (1 to 99); all lines of an order have");
        Run.of("addItem 0 1 1 1\naddItem 0 1 1 1\naddOrder 1\naddOrder 1").range("addLine 0 0 #", 1, 99, Run.ARGUMENT)
                .is("addLine 0 0 99", 0).refuses("addLine 0 0 1", Run.STATE).refuses("addLine 0 0 99", Run.STATE)
                .is("addLine 0 1 1", 1).is("addLine 1 0 1", 0);
    }

    private static void promise8() {
        Sentences.test("Promise 8", "Adds an order without lines.");
        Run.of("addOrder 5").is("lineCount 0", 0).is("orderState 0", 0).is("orderWeight 0", 0).is("orderAisles 0", 0)
                .refuses("pickedUnits 0 0", Run.INDEX).refuses("addBatch 1", Run.STATE);
        Sentences.test("Promise 8", "- `due`: the due time, 0 to 9999");
        Run.of(Halls.NEW).range("addOrder #", 0, 9999, Run.ARGUMENT).is("addOrder 0", 0).is("addOrder 9999", 1)
                .are("due #", 0, 9999);
        Sentences.test("Promise 8", "Throws `IllegalArgumentException` if due is out of range");
        Run.of(Halls.BUSY).range("addOrder #", 0, 9999, Run.ARGUMENT);
        Run.of(Halls.FULL).refuses("addOrder -1", Run.ARGUMENT).refuses("addOrder 10000", Run.ARGUMENT)
                .refuses("addOrder MIN", Run.ARGUMENT).refuses("addOrder MAX", Run.ARGUMENT);
        Sentences.test("Promise 8", "Throws `IllegalStateException` if there are 16 orders");
        Run.of(Halls.FULL).refuses("addOrder 0", Run.STATE).refuses("addOrder 9999", Run.STATE);
        // An order that is cancelled is still one of the sixteen.
        Run.of("addOrder 1\n".repeat(15)).then("cancel 0").is("addOrder 1", 15).then("cancel 15")
                .refuses("addOrder 1", Run.STATE);
    }

    private static void promise9() {
        Sentences.test("Promise 9", "- `quantity`: 1 to 99");
        Run.of(Halls.BUSY).range("addLine 6 5 #", 1, 99, Run.ARGUMENT);

        Sentences.test("Promise 9", "Throws `IndexOutOfBoundsException` if there is no such order or item");
        Run.of(Halls.NEW).noneOf("addLine # 0 1", Run.INDEX);
        Run.of("addOrder 1").noneOf("addLine 0 # 1", Run.INDEX);
        Run.of("addItem 0 1 1 1").noneOf("addLine # 0 1", Run.INDEX);
        Run.of(Halls.BUSY).range("addLine 6 # 1", 0, 5, Run.INDEX).refuses("addLine 9 0 1", Run.INDEX)
                .refuses("addLine -1 0 1", Run.INDEX).refuses("addLine 9 0 100", Run.INDEX)
                .refuses("addLine 0 6 0", Run.INDEX).refuses("addLine MIN MAX MIN", Run.INDEX);
        Run.of(Halls.FULL).range("addLine 11 # 1", 0, 23, Run.INDEX).refuses("addLine 16 0 1", Run.INDEX)
                .refuses("addLine 9 24 1", Run.INDEX);

        Sentences.test("Promise 9", "Throws `IllegalArgumentException` if quantity is out of range");
        // Before the states: BATCHED, DONE, CANCELLED, 6 lines, the same item again.
        Run.of(Halls.BUSY).refuses("addLine 5 1 0", Run.ARGUMENT).refuses("addLine 0 2 100", Run.ARGUMENT)
                .refuses("addLine 7 0 MIN", Run.ARGUMENT).refuses("addLine 8 0 MAX", Run.ARGUMENT);
        Run.of(Halls.FULL).refuses("addLine 9 0 100", Run.ARGUMENT).refuses("addLine 9 9 0", Run.ARGUMENT);
    }

    private static void promise9Refused() {
        Sentences.test("Promise 9", "Adds a line to an OPEN order.");
        Run.of(Halls.BUSY).is("addLine 6 0 1", 0).is("addLine 6 5 1", 1).is("addLine 8 2 1", 2);
        Sentences.test("Promise 9", "Throws `IllegalStateException` if the order is not OPEN, has 6 lines, or");
        Run.of(Halls.BUSY).refuses("addLine 5 1 1", Run.STATE).refuses("addLine 0 2 1", Run.STATE)
                .refuses("addLine 7 0 1", Run.STATE).refuses("addLine 8 0 1", Run.STATE)
                .refuses("addLine 8 1 99", Run.STATE);
        Run.of(Halls.FULL).refuses("addLine 9 0 1", Run.STATE).refuses("addLine 15 0 99", Run.STATE)
                .refuses("addLine 10 10 1", Run.STATE).is("addLine 10 9 1", 1).is("addLine 11 23 99", 0)
                // The sixth line is taken and the seventh is not.
                .then("addLine 10 0 1\naddLine 10 1 1\naddLine 10 2 1").is("addLine 10 3 1", 5)
                .refuses("addLine 10 4 1", Run.STATE);
        // An order whose batch is dissolved takes lines again.
        Run.of(Halls.BUSY).then("dissolve 1").is("addLine 5 1 1", 1);
    }

    private static void promise10To13() {
        Sentences.test("Promise 10", "Returns the number of orders in all states.");
        Run.of(Halls.NEW).is("orderCount", 0);
        Run.of(Halls.BUSY).is("orderCount", 9);
        Run.of(Halls.FULL).is("orderCount", 16);
        Sentences.test("Promise 11", "Returns 0 OPEN, 1 BATCHED, 2 DONE, 3 CANCELLED.");
        Run.of(Halls.BUSY).are("orderState #", 2, 2, 2, 1, 1, 1, 0, 3, 0);
        Sentences.test("Promise 12", "Returns the number of its lines.");
        Run.of(Halls.BUSY).are("lineCount #", 2, 1, 1, 2, 2, 1, 0, 1, 2);
        Run.of(Halls.FULL).is("lineCount 9", 6).is("lineCount 10", 1).is("lineCount 11", 0);
        Sentences.test("Promise 13", "Returns its due time.");
        Run.of(Halls.BUSY).are("due #", 20, 0, 50, 30, 10, 9999, 5, 6, 40);
        String[] calls = {"", "orderState #", "lineCount #", "due #"};
        for (int k = 1; k <= 3; k++) {
            Sentences.test("Promise " + (10 + k), "Throws `IndexOutOfBoundsException` if there is no such order");
            noSuchOrder(calls[k]);
        }
    }

    private static void noSuchOrder(String call) {
        Run.of(Halls.NEW).noneOf(call, Run.INDEX);
        Run.of(Halls.BUSY).range(call, 0, 8, Run.INDEX);
        Run.of(Halls.FULL).range(call, 0, 15, Run.INDEX);
    }

    private static void promise14() {
        Sentences.test("Promise 14", "- `due`: 0 to 9999");
        Run.of(Halls.BUSY).range("setDue 6 #", 0, 9999, Run.ARGUMENT).range("setDue 5 #", 0, 9999, Run.ARGUMENT);
        Sentences.test("Promise 14", "Returns the previous due time.");
        Run.of(Halls.BUSY).is("setDue 5 0", 9999).is("setDue 5 9999", 0).is("setDue 5 9999", 9999).is("due 5", 9999);
        Sentences.test("Promise 14", "Throws `IndexOutOfBoundsException` if there is no such order");
        Run.of(Halls.NEW).noneOf("setDue # 5", Run.INDEX);
        Run.of(Halls.BUSY).refuses("setDue 9 0", Run.INDEX).refuses("setDue -1 0", Run.INDEX)
                .refuses("setDue MAX 10000", Run.INDEX).refuses("setDue MIN -1", Run.INDEX);
        Run.of(Halls.FULL).is("setDue 15 0", 9984).refuses("setDue 16 0", Run.INDEX);
        Sentences.test("Promise 14", "Throws `IllegalArgumentException` if due is out of range");
        Run.of(Halls.BUSY).refuses("setDue 0 -1", Run.ARGUMENT).refuses("setDue 7 10000", Run.ARGUMENT)
                .refuses("setDue 3 MIN", Run.ARGUMENT).refuses("setDue 6 MAX", Run.ARGUMENT);
        Sentences.test("Promise 14", "Throws `IllegalStateException` if the order is DONE or CANCELLED");
        Run.of(Halls.BUSY).refuses("setDue 0 5", Run.STATE).refuses("setDue 1 0", Run.STATE)
                .refuses("setDue 2 50", Run.STATE).refuses("setDue 7 6", Run.STATE);
    }

    private static void promise15And16() {
        Sentences.test(SECTION, "The weight of an order is the sum of its quantities times the weights");
        // Six lines of 99 units of the weight 50 are the heaviest order that there can be, 1 * 1 the lightest.
        Run.of(Halls.FULL).is("orderWeight 15", 29700).is("orderWeight 10", 4950).is("orderWeight 11", 0);
        Run.of("addItem 0 1 1 0\naddOrder 0\naddLine 0 0 1").is("orderWeight 0", 1);
        Sentences.test(SECTION, "Sets of orders, aisles and so on are reported as bit masks");
        Run.of("setLayout 6 2 1\naddItem 0 1 1 1\naddItem 5 1 1 1\naddItem 5 2 1 1\naddOrder 0\naddLine 0 2 1")
                .is("orderAisles 0", 32).then("addLine 0 1 1").is("orderAisles 0", 32)
                .then("addLine 0 0 1").is("orderAisles 0", 33);
        Run.of(Halls.FULL).is("orderAisles 15", 42).is("batchOrders 7", 128).is("orderAisles 8", 63)
                .then("dissolve 7").is("addBatch 62080", 7).is("batchOrders 7", 62080);
        Sentences.test("Promise 15", "Throws `IndexOutOfBoundsException` if there is no such order");
        noSuchOrder("orderWeight #");
        Sentences.test("Promise 16", "Returns the aisles in which the items of its lines lie, as a bit mask.");
        Run.of(Halls.BUSY).are("orderAisles #", 3, 4, 2, 24, 20, 1, 0, 16, 3);
        Sentences.test("Promise 16", "Throws `IndexOutOfBoundsException` if there is no such order");
        noSuchOrder("orderAisles #");
    }

    private static void promise17() {
        Sentences.test("Promise 17", "Cancels an order that is OPEN or BATCHED; it leaves its batch.");
        // An open one without lines, one of two in its batch, the last one of its batch.
        Run.of(Halls.BUSY).is("cancel 6", 2).is("orderState 6", 3).is("cancel 3", 2).batches(16, 32)
                .is("cancel 4", 1).batches(32).is("cancel 5", 0).batches().are("orderState #", 2, 2, 2, 3, 3, 3, 3, 3, 0);
        Sentences.test("Promise 17", "Returns the number of batches then.");
        Run.of(Halls.FULL).is("cancel 11", 8).is("cancel 0", 7).is("batchOrders 0", 2).is("batchOrders 6", 128)
                .refuses("batchOrders 7", Run.INDEX);
        Sentences.test("Promise 17", "Throws `IndexOutOfBoundsException` if there is no such order");
        Run.of(Halls.NEW).noneOf("cancel #", Run.INDEX);
        Run.of(Halls.BUSY).refuses("cancel 9", Run.INDEX).refuses("cancel -1", Run.INDEX)
                .refuses("cancel MIN", Run.INDEX).refuses("cancel MAX", Run.INDEX);
        Run.of(Halls.FULL).is("cancel 15", 8).refuses("cancel 16", Run.INDEX);
        Sentences.test("Promise 17", "Throws `IllegalStateException` if the order is DONE or CANCELLED");
        Run.of(Halls.BUSY).refuses("cancel 0", Run.STATE).refuses("cancel 1", Run.STATE).refuses("cancel 7", Run.STATE)
                .then("cancel 6").refuses("cancel 6", Run.STATE);
    }

    private static void promise8And9Plain() {
        Sentences.test("Promise 8", "Returns the number of the order.");
        Run.of(Halls.NEW).is("addOrder 9", 0).is("addOrder 5", 1).then("cancel 0").is("addOrder 7", 2);
        Run.of(Halls.BUSY).is("addOrder 5", 9).is("reorder 2 5", 10).is("addOrder 5", 11);
        Sentences.test("Promise 9", "- `order`: an order");
        Run.of("addItem 0 1 1 1\naddOrder 1\naddOrder 1\naddOrder 1").range("addLine # 0 1", 0, 2, Run.INDEX);
        Sentences.test("Promise 9", "- `item`: an item");
        Run.of(Halls.BUSY).range("addLine 6 # 7", 0, 5, Run.INDEX);
        // The item and the quantity of each line are those that were told.
        Run.of(Halls.BUSY).changes("addLine 6 4 3", "order 6 lines").is("orderWeight 6", 12).is("orderAisles 6", 16)
                .changes("addLine 6 2 2", "order 6 lines").is("orderWeight 6", 112).is("orderAisles 6", 20)
                .then("dissolve 0\ndissolve 0\naddBatch 64").is("pickBatch", 5).are("pickedUnits 6 #", 3, 2)
                .is("stock 4", 6).is("stock 2", 994);
        Sentences.test("Promise 9", "Returns the number of the line.");
        Run.of(Halls.BUSY).is("addLine 6 5 1", 0).is("addLine 8 5 1", 2).is("addLine 6 0 1", 1).is("addLine 6 3 1", 2);
    }

    private static void promise14Plain() {
        Sentences.test("Promise 14", "Sets the due time of an order that is OPEN or BATCHED.");
        Run.of(Halls.BUSY).changes("setDue 6 77", "order 6 due").is("due 6", 77).changes("setDue 8 78", "order 8 due")
                .changes("setDue 4 79", "order 4 due").are("due #", 20, 0, 50, 30, 79, 9999, 77, 6, 78);
        // The lateness goes with it: batch 0 is complete at 72.
        Run.of(Halls.BUSY).is("lateness 4", 62).then("setDue 4 70").is("lateness 4", 2).is("lateOrders", 24)
                .then("setDue 4 72").is("lateness 4", 0).is("lateOrders", 8).is("totalTardiness", 42);
        Sentences.test("Promise 15", "Returns its weight.");
        Run.of(Halls.BUSY).are("orderWeight #", 7 * 2 + 2 * 3, 3 * 50, 4 * 3, 2 + 4, 9 * 50 + 1, 99 * 2, 0, 2 * 4, 2 * 2 + 2 * 3);
    }

    /** Orders in all states, but for setDue and cancel, which take those that are OPEN or BATCHED. */
    private static void whichOrder() {
        String[] names = {"orderState", "lineCount", "due", "", "orderWeight", "orderAisles"};
        for (int k = 0; k < names.length; k++) {
            if (!names[k].isEmpty()) {
                Sentences.test("Promise " + (11 + k), "- `order`: an order");
                Run.of(Halls.BUSY).range(names[k] + " #", 0, 8, Run.INDEX).then(names[k] + " 3\n" + names[k] + " 7");
            }
        }
        Sentences.test("Promise 14", "- `order`: an order");
        Run.of("addOrder 3\naddOrder 3\naddOrder 3").range("setDue # 4", 0, 2, Run.INDEX);
        Sentences.test("Promise 17", "- `order`: an order");
        Run.of("addOrder 3\naddOrder 3\naddOrder 3").range("cancel #", 0, 2, Run.INDEX).then("cancel 1")
                .are("orderState #", 0, 3, 0);
    }
}
