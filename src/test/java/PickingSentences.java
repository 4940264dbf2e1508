/** The sentences about picking and ordering again: promises 47 to 52. */
final class PickingSentences {
    private static final String SECTION = "PICKING";

    private PickingSentences() {
    }

    static void run() {
        stock();
        promise47();
        promise48And49();
        promise50And51();
        promise52();
        promise52Refused();
        whichOrderAndLine();
        promise52Plain();
    }

    private static void stock() {
        Sentences.test(SECTION, "When a batch is picked, its orders are served by ascending number, and the lines of each");
        // Just enough, one unit too few, and nothing at all.
        Run.of("addItem 0 1 1 99\naddItem 0 1 1 98\naddItem 0 1 1 0\naddOrder 1\naddLine 0 2 99\naddLine 0 1 99\n"
                + "addLine 0 0 99\naddBatch 1").is("pickBatch", 99 + 98).are("pickedUnits 0 #", 0, 98, 99)
                .are("shortUnits 0 #", 99, 1, 0).are("stock #", 0, 0, 0);
        // Order 0 comes before order 1, whatever is due first and whichever was batched first.
        Run.of("addItem 0 1 1 100\naddOrder 9999\naddLine 0 0 99\naddOrder 0\naddLine 1 0 99\naddBatch 2\ndissolve 0\n"
                + "addBatch 3").is("pickBatch", 100).is("pickedUnits 0 0", 99).is("pickedUnits 1 0", 1)
                .is("shortUnits 1 0", 98).is("stock 0", 0);
        Run.of("addItem 0 1 1 999\naddOrder 1\naddLine 0 0 1\naddBatch 1").is("pickBatch", 1).is("stock 0", 998);
        Sentences.test(SECTION, "Then the orders are DONE, and the batch disappears.");
        Run.of(Halls.FULL).then("pickBatch").is("orderState 0", 2).is("orderState 1", 1)
                .batches(2, 4, 8, 16, 32, 64, 128);
    }

    private static void promise47() {
        Sentences.test("Promise 47", "Picks batch 0.");
        Run.of(Halls.BUSY).then("pickBatch").are("orderState #", 2, 2, 2, 2, 2, 1, 0, 3, 0).batches(32)
                .then("pickBatch").is("orderState 5", 2).batches();
        Sentences.test("Promise 47", "Returns the number of units that are picked.");
        // BUSY has 20, 9, 996 and 3 units for 2, 1, 9 and 1, but none of item 0.
        Run.of(Halls.BUSY).is("pickBatch", 2 + 1 + 9 + 1).is("pickBatch", 0);
        Sentences.test("Promise 47", "Throws `IllegalStateException` if there are no batches");
        Run.of(Halls.NEW).refuses("pickBatch", Run.STATE);
        Run.of(Halls.BUSY).then("pickBatch\npickBatch").refuses("pickBatch", Run.STATE);
        Run.of("addItem 0 1 1 9\naddOrder 1\naddLine 0 0 1").refuses("pickBatch", Run.STATE).then("addBatch 1")
                .then("cancel 0").refuses("pickBatch", Run.STATE);
    }

    private static void promise48And49() {
        Sentences.test("Promise 48", "Returns the number of units that were picked for the line; 0 if the order is not DONE.");
        Run.of(Halls.BUSY).are("pickedUnits 0 #", 5, 0).is("pickedUnits 1 0", 3).is("pickedUnits 3 0", 0)
                .is("pickedUnits 7 0", 0).is("pickedUnits 8 0", 0);
        Sentences.test("Promise 49", "Returns the number of units of the line that are short; 0 if the order is not DONE.");
        Run.of(Halls.BUSY).are("shortUnits 0 #", 2, 2).is("shortUnits 1 0", 0).is("shortUnits 2 0", 4)
                .is("shortUnits 5 0", 0).is("shortUnits 7 0", 0).is("shortUnits 8 0", 0);
        Sentences.test("Promise 48", "Throws `IndexOutOfBoundsException` if there is no such order or line");
        noSuchOrderOrLine("pickedUnits");
        Sentences.test("Promise 49", "Throws `IndexOutOfBoundsException` if there is no such order or line");
        noSuchOrderOrLine("shortUnits");
    }

    private static void noSuchOrderOrLine(String name) {
        Run.of(Halls.NEW).noneOf(name + " # 0", Run.INDEX).noneOf(name + " 0 #", Run.INDEX);
        Run.of(Halls.BUSY).range(name + " 0 #", 0, 1, Run.INDEX).range(name + " 1 #", 0, 0, Run.INDEX)
                .noneOf(name + " 6 #", Run.INDEX).refuses(name + " 9 0", Run.INDEX).refuses(name + " -1 0", Run.INDEX)
                .refuses(name + " MIN MAX", Run.INDEX).refuses(name + " MAX MIN", Run.INDEX);
        Run.of(Halls.FULL).range(name + " 8 #", 0, 5, Run.INDEX).range(name + " 15 #", 0, 5, Run.INDEX)
                .range(name + " 10 #", 0, 0, Run.INDEX).noneOf(name + " 11 #", Run.INDEX).refuses(name + " 16 0", Run.INDEX);
    }

    private static void promise50And51() {
        Sentences.test("Promise 50", "Returns the sum of the quantities of all lines of all DONE orders.");
        Run.of(Halls.NEW).is("totalOrdered", 0);
        Run.of(Halls.BUSY).is("totalOrdered", 9 + 3 + 4);
        Run.of(Halls.FULL).is("totalOrdered", 6 * 99);
        Sentences.test("Promise 51", "Returns the number of units that were picked for all DONE orders.");
        Run.of(Halls.NEW).is("totalPicked", 0);
        Run.of(Halls.BUSY).is("totalPicked", 5 + 3);
        Run.of(Halls.FULL).is("totalPicked", 5 * 99);
        // All orders that have lines, in the end: 15 orders, one of them with a single line.
        Run.of(Halls.FULL).then("pickBatch\n".repeat(8) + "makeBatches 1 99999 0\n" + "pickBatch\n".repeat(6))
                .is("totalOrdered", 14 * 6 * 99 + 99).is("batchCount", 0);
    }

    private static void promise52() {
        Sentences.test("Promise 52", "Orders again what is short in a DONE order: adds an OPEN order with a line for each");
        Run.of(Halls.BUSY).is("reorder 2 0", 9).is("lineCount 9", 1).is("orderWeight 9", 4 * 3).is("orderState 9", 0)
                .is("due 9", 0).is("lineCount 8", 2).is("orderWeight 8", 2 * 2 + 2 * 3);
        // All six lines are short with all of their units; the third one of three only.
        Run.of("addItem 0 1 1 0\n".repeat(6) + "addOrder 1\n" + lines(6) + "addBatch 1\npickBatch").is("reorder 0 1", 1)
                .is("lineCount 1", 6).is("orderWeight 1", 6 * 99).then("addBatch 2\npickBatch").is("reorder 1 1", 2);
        Run.of("addItem 0 1 1 99\naddItem 0 1 1 99\naddItem 0 1 50 98\naddOrder 1\n" + lines(3) + "addBatch 1\npickBatch")
                .is("reorder 0 1", 1).is("lineCount 1", 1).is("orderWeight 1", 50).refuses("addLine 1 2 1", Run.STATE)
                .is("addLine 1 0 1", 1);
        Sentences.test("Promise 52", "- `due`: the due time of the new order, 0 to 9999");
        Run.of(Halls.BUSY).range("reorder 2 #", 0, 9999, Run.ARGUMENT).is("reorder 2 9999", 9).is("due 9", 9999);
    }

    private static String lines(int count) {
        StringBuilder script = new StringBuilder();
        for (int line = 0; line < count; line++) {
            script.append("addLine 0 ").append(line).append(" 99\n");
        }
        return script.toString();
    }

    private static void promise52Refused() {
        Sentences.test("Promise 52", "Throws `IndexOutOfBoundsException` if there is no such order");
        Run.of(Halls.NEW).noneOf("reorder # 0", Run.INDEX);
        Run.of(Halls.BUSY).refuses("reorder 9 0", Run.INDEX).refuses("reorder -1 0", Run.INDEX)
                .refuses("reorder MIN -1", Run.INDEX).refuses("reorder MAX 10000", Run.INDEX);
        Run.of(Halls.FULL).refuses("reorder 16 0", Run.INDEX);
        Sentences.test("Promise 52", "Throws `IllegalArgumentException` if due is out of range");
        // Before the states: ordered again before, nothing short, BATCHED, OPEN, CANCELLED, 16 orders.
        Run.of(Halls.BUSY).refuses("reorder 0 -1", Run.ARGUMENT).refuses("reorder 1 10000", Run.ARGUMENT)
                .refuses("reorder 3 MIN", Run.ARGUMENT).refuses("reorder 6 MAX", Run.ARGUMENT)
                .refuses("reorder 7 -1", Run.ARGUMENT);
        Run.of(Halls.FULL).refuses("reorder 8 -1", Run.ARGUMENT).refuses("reorder 8 10000", Run.ARGUMENT);
        Sentences.test("Promise 52", "Throws `IllegalStateException` if the order is not DONE, nothing is short in it");
        Run x = Run.of(Halls.BUSY);
        for (int order : new int[] {0, 1, 3, 4, 5, 6, 7, 8}) {
            x.refuses("reorder " + order + " 5", Run.STATE);
        }
        x.is("reorder 2 5", 9).refuses("reorder 2 5", Run.STATE);
        Run.of(Halls.FULL).refuses("reorder 8 5", Run.STATE);
        // The sixteenth order can be one that was ordered again, a seventeenth can't.
        Run.of(Halls.BUSY).then("addOrder 1\n".repeat(6)).is("reorder 2 5", 15).is("orderCount", 16);
        Run.of(Halls.BUSY).then("addOrder 1\n".repeat(7)).refuses("reorder 2 5", Run.STATE);
        // Stock that comes later does not change what was short.
        Run.of(Halls.BUSY).then("restock 1 999").is("shortUnits 2 0", 4).is("reorder 2 5", 9);
    }

    private static void whichOrderAndLine() {
        String[] names = {"pickedUnits", "shortUnits"};
        for (int k = 0; k < 2; k++) {
            Sentences.test("Promise " + (48 + k), "- `order`: an order");
            Run.of(Halls.BUSY).then("cancel 6\naddLine 8 3 1").then(names[k] + " 0 0\n" + names[k] + " 8 2")
                    .refuses(names[k] + " 9 0", Run.INDEX).refuses(names[k] + " -1 0", Run.INDEX);
            Sentences.test("Promise " + (48 + k), "- `line`: a line of the order");
            // DONE, BATCHED, CANCELLED and OPEN, with 2, 2, 1 and 2 lines.
            Run.of(Halls.BUSY).range(names[k] + " 0 #", 0, 1, Run.INDEX).range(names[k] + " 4 #", 0, 1, Run.INDEX)
                    .range(names[k] + " 7 #", 0, 0, Run.INDEX).range(names[k] + " 8 #", 0, 1, Run.INDEX);
        }
    }

    private static void promise52Plain() {
        Sentences.test("Promise 52", "- `order`: an order");
        Run.of("addItem 0 1 1 0\naddOrder 1\naddLine 0 0 1\naddOrder 1\naddLine 1 0 2\naddOrder 1\naddLine 2 0 3\n"
                + "addBatch 7\npickBatch").range("reorder # 1", 0, 2, Run.INDEX);
        Sentences.test("Promise 52", "Returns the number of the new order.");
        Run.of(Halls.BUSY).then("addOrder 5").is("reorder 2 1", 10).is("orderCount", 11)
                .then("pickBatch\npickBatch").is("reorder 5 1", 11);
        Sentences.test("Promise 52", "Orders again what is short in a DONE order: adds an OPEN order with a line for each");
        // Short are 1, 0, 30 and 9 units of the items 3, 0, 2 and 1: three lines, in this sequence.
        Run.of("addItem 0 1 1 99\naddItem 1 1 2 90\naddItem 2 1 4 0\naddItem 3 1 8 4\naddOrder 1\naddLine 0 3 5\n"
                + "addLine 0 0 7\naddLine 0 2 30\naddLine 0 1 99\naddBatch 1\npickBatch")
                .are("shortUnits 0 #", 1, 0, 30, 9).changes("reorder 0 66", "order 0 again", "order 1 *")
                .is("lineCount 1", 3).is("due 1", 66).is("orderWeight 1", 8 + 120 + 18).is("orderAisles 1", 14)
                .then("restock 1 50\nrestock 2 50\nrestock 3 50\naddBatch 2").is("pickBatch", 40)
                .are("pickedUnits 1 #", 1, 30, 9).are("stock #", 92, 41, 20, 49);
    }
}
