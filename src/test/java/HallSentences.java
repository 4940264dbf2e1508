/** The sentences about the hall and its items: promises 1 to 7. */
final class HallSentences {
    private static final String SECTION = "HALL AND ITEMS";

    private HallSentences() {
    }

    static void run() {
        sizes();
        itemsAndPlaces();
        promise1();
        promise2();
        promise3To5();
        promise4();
        promise6();
        promise7();
        promise4Plain();
        promise6And7Plain();
    }

    private static void sizes() {
        Sentences.test(SECTION, "The hall has 1 to 6 parallel aisles");
        Run.of("setLayout 6 20 9").is("aisleCount", 6).are("zoneOf #", 0, 0, 0, 0, 0, 0).refuses("zoneOf 6", Run.INDEX)
                .is("setLayout 1 2 1", 2).is("aisleCount", 1).refuses("zoneOf 1", Run.INDEX)
                .refuses("setLayout 0 2 1", Run.ARGUMENT).refuses("setLayout 7 2 1", Run.ARGUMENT);

        Sentences.test(SECTION, "An aisle has the places 1 to depth.");
        Run.of("setLayout 2 20 1").range("addItem 1 # 1 1", 1, 20, Run.INDEX);
        Run.of("setLayout 2 2 1").range("addItem 1 # 1 1", 1, 2, Run.INDEX);

        Sentences.test(SECTION, "Its front end is at the distance p from place p");
        // Depth 20 and an item at place 1: 1 from the front end, 20 from the back end, and 21 from end to end.
        Run.of("setLayout 3 20 1\naddItem 0 1 1 1\naddItem 1 1 1 1\naddItem 2 1 1 1\naddItem 1 20 1 1\naddOrder 0\n"
                + "addLine 0 0 1\naddLine 0 1 1\naddLine 0 2 1\naddBatch 1")
                .lengths(0, 0, 4 + 6, 4 + 42 + 2, 4 + 42 + 2, 4 + 6)
                .then("addOrder 0\naddLine 1 0 1\naddLine 1 3 1\naddLine 1 2 1\naddBatch 2")
                .lengths(1, 0, 4 + 2 + 40 + 2, 4 + 42 + 2, 4 + 42 + 2, 4 + 42 + 2);

        Sentences.test(SECTION, "The front ends of all aisles are connected by a front walk");
        String items = "addItem 0 1 1 1\naddItem 5 1 1 1\naddOrder 0\naddLine 0 0 1\naddLine 0 1 1\naddBatch 1\n";
        Run.of("setLayout 6 2 9\n" + items).lengths(0, 0, 90 + 4, 90 + 6, 90 + 6, 90 + 4);
        Run.of("setLayout 6 2 1\n" + items).lengths(0, 0, 10 + 4, 10 + 6, 10 + 6, 10 + 4);

        Sentences.test(SECTION, "At first there are 4 aisles with the depth 10 and the width 2.");
        Run.of(Halls.NEW).is("aisleCount", 4).refuses("addItem 4 1 1 1", Run.INDEX).refuses("addItem 3 11 1 1", Run.INDEX)
                .then("addItem 3 10 1 1\naddOrder 0\naddLine 0 0 1\naddBatch 1").is("batchRoute 0", 2 * 3 * 2 + 2 * 10);
    }

    private static void itemsAndPlaces() {
        Sentences.test(SECTION, "There are at most 24 items, numbered from 0.");
        Run x = Run.of(Halls.NEW);
        for (int item = 0; item < 24; item++) {
            x.is("addItem 0 1 1 " + item, item);
        }
        x.is("itemCount", 24).refuses("addItem 0 1 1 24", Run.STATE).is("itemCount", 24).is("stock 0", 0).is("stock 23", 23)
                .refuses("stock 24", Run.INDEX);

        Sentences.test(SECTION, "An item lies at a place of an aisle (several items may lie at the same place)");
        Run y = Run.of("setLayout 1 20 1\naddItem 0 20 1 0\naddItem 0 20 50 999\naddItem 0 20 50 999")
                .is("itemCount", 3).is("stock 0", 0).is("stock 1", 999)
                .then("addOrder 0\naddLine 0 2 1\naddLine 0 1 1\naddLine 0 0 1\naddBatch 1").is("batchWeight 0", 101);
        y.lengths(0, 0, 40, 40, 40, 40).stops(0, 0, 0, 1, 2);
        for (String values : new String[] {"0 1", "51 1", "1 -1", "1 1000"}) {
            y.refuses("addItem 0 20 " + values, Run.ARGUMENT);
        }
    }

    private static void promise1() {
        Sentences.test("Promise 1", "Creates a hall without items, orders and batches, with one zone");
        Run.of(Halls.NEW).is("itemCount", 0).is("orderCount", 0).is("batchCount", 0).are("zoneOf #", 0, 0, 0, 0)
                .is("blockedTime 0", 0).refuses("blockedTime 1", Run.INDEX)
                .is("truncateText 0", 0).refuses("truncateText 1", Run.ARGUMENT)
                .refuses("restore 0", Run.STATE).refuses("restore 1", Run.STATE)
                .is("errorCode", 0).is("errorPosition", -1)
                .is("setPolicy 0", 0).is("setTimes 0 1", 1).is("setBuffer 0 1", 1).is("setBuffer 1 1", 1)
                .is("makespan", 0).is("lateOrders", 0).is("totalTardiness", 0).is("savedDistance", 0)
                .is("meanTardinessNumerator", 0).is("meanTardinessDenominator", 1)
                .is("totalOrdered", 0).is("totalPicked", 0)
                .is("makeBatches 6 99999 0", 0).is("improve 6 99999", 0).are("sortBatches #", 0, 0, 0);
    }

    private static void promise2() {
        Sentences.test("Promise 2", "Sets the layout of a hall without items; it has one zone then.");
        Run.of("setZones 1 3\nsetLayout 4 10 2").are("zoneOf #", 0, 0, 0, 0).refuses("blockedTime 1", Run.INDEX);
        Sentences.test("Promise 2", "- `aisles`: 1 to 6");
        Run.of(Halls.NEW).range("setLayout # 5 5", 1, 6, Run.ARGUMENT);
        Sentences.test("Promise 2", "- `depth`: 2 to 20");
        Run.of(Halls.NEW).range("setLayout 5 # 5", 2, 20, Run.ARGUMENT);
        Sentences.test("Promise 2", "- `width`: 1 to 9");
        Run.of(Halls.NEW).range("setLayout 5 5 #", 1, 9, Run.ARGUMENT);
        Sentences.test("Promise 2", "Returns the number of places in all aisles.");
        Run.of(Halls.NEW).is("setLayout 1 2 1", 2).is("setLayout 6 20 9", 120).is("setLayout 1 20 9", 20);

        Sentences.test("Promise 2", "Throws `IllegalArgumentException`");
        Run.of(Halls.NEW).noneOf("setLayout 7 2 #", Run.ARGUMENT).refuses("setLayout MIN MAX MIN", Run.ARGUMENT);
        for (String hall : new String[] {Halls.BUSY, Halls.FULL}) {
            Run.of(hall).refuses("setLayout 0 5 5", Run.ARGUMENT).refuses("setLayout 7 5 5", Run.ARGUMENT)
                    .refuses("setLayout 5 1 5", Run.ARGUMENT).refuses("setLayout 5 21 5", Run.ARGUMENT)
                    .refuses("setLayout 5 5 0", Run.ARGUMENT).refuses("setLayout 5 5 10", Run.ARGUMENT);
        }
        Sentences.test("Promise 2", "Throws `IllegalStateException` if there are items");
        Run.of("setLayout 5 5 5\naddOrder 1").is("setLayout 4 10 2", 40).then("addItem 0 1 1 1")
                .refuses("setLayout 4 10 2", Run.STATE).refuses("setLayout 1 2 1", Run.STATE)
                .refuses("setLayout 6 20 9", Run.STATE);
        Run.of(Halls.BUSY).refuses("setLayout 5 10 2", Run.STATE);
        Run.of(Halls.FULL).refuses("setLayout 6 20 9", Run.STATE);
    }

    private static void promise3To5() {
        Sentences.test("Promise 3", "Returns the number of aisles.");
        Run.of(Halls.NEW).is("aisleCount", 4).then("setLayout 1 2 1").is("aisleCount", 1)
                .then("setLayout 6 2 1").is("aisleCount", 6);
        Sentences.test("Promise 5", "Returns the number of items.");
        Run.of(Halls.NEW).is("itemCount", 0).then("addItem 0 1 1 1").is("itemCount", 1);
        Run.of(Halls.FULL).is("itemCount", 24);
    }

    private static void promise4() {
        Sentences.test("Promise 4", "- `place`: 1 to depth");
        Run.of("setLayout 1 2 1").range("addItem 0 # 1 1", 1, 2, Run.INDEX);
        Run.of("setLayout 6 20 1").range("addItem 5 # 1 1", 1, 20, Run.INDEX);
        Sentences.test("Promise 4", "- `weight`: 1 to 50");
        Run.of(Halls.BUSY).range("addItem 0 1 # 1", 1, 50, Run.ARGUMENT);
        Sentences.test("Promise 4", "- `stock`: 0 to 999");
        Run.of(Halls.BUSY).range("addItem 0 1 1 #", 0, 999, Run.ARGUMENT);

        Sentences.test("Promise 4", "Throws `IndexOutOfBoundsException` if there is no such aisle or place");
        Run.of("setLayout 1 2 1").range("addItem # 1 1 1", 0, 0, Run.INDEX);
        Run.of(Halls.BUSY).range("addItem # 1 1 1", 0, 4, Run.INDEX).refuses("addItem 5 11 51 1000", Run.INDEX)
                .refuses("addItem 0 0 0 -1", Run.INDEX).refuses("addItem MIN MAX MIN MAX", Run.INDEX);
        Run.of(Halls.FULL).refuses("addItem 6 1 1 1", Run.INDEX).refuses("addItem -1 1 51 1", Run.INDEX)
                .refuses("addItem 5 21 1 1", Run.INDEX).refuses("addItem 5 0 1 1000", Run.INDEX);

        Sentences.test("Promise 4", "Throws `IllegalArgumentException` if weight or stock is out of range");
        Run.of(Halls.BUSY).refuses("addItem 0 1 MIN MAX", Run.ARGUMENT);
        Run.of(Halls.FULL).refuses("addItem 0 1 0 1", Run.ARGUMENT).refuses("addItem 0 1 51 1", Run.ARGUMENT)
                .refuses("addItem 0 1 1 -1", Run.ARGUMENT).refuses("addItem 0 1 1 1000", Run.ARGUMENT);

        Sentences.test("Promise 4", "Throws `IllegalStateException` if there are 24 items");
        Run.of(Halls.FULL).refuses("addItem 0 1 1 1", Run.STATE).refuses("addItem 5 20 50 999", Run.STATE);
    }

    private static void promise6() {
        Sentences.test("Promise 6", "Throws `IndexOutOfBoundsException` if there is no such item");
        Run.of(Halls.NEW).noneOf("stock #", Run.INDEX);
        Run.of(Halls.BUSY).range("stock #", 0, 5, Run.INDEX);
        Run.of(Halls.FULL).range("stock #", 0, 23, Run.INDEX);
    }

    private static void promise7() {
        Sentences.test("Promise 7", "- `units`: 1 to 999");
        Run.of("addItem 0 1 1 0").range("restock 0 #", 1, 999, Run.ARGUMENT);
        Sentences.test("Promise 7", "Returns the stock then.");
        Run.of("addItem 0 1 1 0").is("restock 0 1", 1).is("restock 0 998", 999).is("stock 0", 999);

        Sentences.test("Promise 7", "Throws `IndexOutOfBoundsException` if there is no such item");
        Run.of(Halls.NEW).noneOf("restock # 1", Run.INDEX);
        Run.of(Halls.BUSY).refuses("restock 6 1", Run.INDEX).refuses("restock -1 1", Run.INDEX)
                .refuses("restock MAX 0", Run.INDEX).refuses("restock MIN 1000", Run.INDEX);
        Run.of(Halls.FULL).refuses("restock 24 1", Run.INDEX).refuses("restock -1 1000", Run.INDEX);

        Sentences.test("Promise 7", "Throws `IllegalArgumentException` if units is out of range");
        Run.of("addItem 0 1 1 999").noneOf("restock 0 #", Run.ARGUMENT);
        Run.of("addItem 0 1 1 998").range("restock 0 #", 1, 1, Run.ARGUMENT);
        Run.of("addItem 0 1 1 1").range("restock 0 #", 1, 998, Run.ARGUMENT).refuses("restock 0 999", Run.ARGUMENT);
        // Units that were picked make room for others.
        Run.of(Halls.BUSY).is("stock 2", 996).range("restock 2 #", 1, 3, Run.ARGUMENT)
                .is("stock 0", 0).range("restock 0 #", 1, 999, Run.ARGUMENT);
        Run.of(Halls.FULL).noneOf("restock 23 #", Run.ARGUMENT);
    }

    private static void promise4Plain() {
        Sentences.test("Promise 4", "Adds an item.");
        // In aisle 3, at place 7, with the weight 9 and a stock of 4.
        Run.of(Halls.NEW).changes("addItem 3 7 9 4", "item 0 *").is("stock 0", 4)
                .then("addOrder 0\naddLine 0 0 5\naddBatch 1").is("orderAisles 0", 8).is("orderWeight 0", 45)
                .is("batchRoute 0", 2 * 3 * 2 + 2 * 7).is("pickBatch", 4).is("stock 0", 0);
        Run.of(Halls.BUSY).changes("addItem 0 1 1 1", "item 6 *").changes("addItem 4 10 50 999", "item 7 *");
        Sentences.test("Promise 4", "- `aisle`: an aisle");
        Run.of(Halls.NEW).range("addItem # 1 1 1", 0, 3, Run.INDEX);
        Run.of("setLayout 6 2 1").range("addItem # 2 1 1", 0, 5, Run.INDEX);
        Sentences.test("Promise 4", "Returns the number of the item.");
        Run.of(Halls.NEW).is("addItem 3 1 1 1", 0).is("addItem 0 1 1 1", 1).is("addItem 3 1 1 1", 2);
        Run.of(Halls.BUSY).is("addItem 0 1 1 1", 6).is("addItem 0 1 1 1", 7).is("itemCount", 8);
    }

    private static void promise6And7Plain() {
        Sentences.test("Promise 6", "- `item`: an item");
        Run.of(Halls.BUSY).range("stock #", 0, 5, Run.INDEX);
        Sentences.test("Promise 6", "Returns its stock.");
        // 5 of item 0 and 3 of item 2 are picked.
        Run.of(Halls.BUSY).are("stock #", 0, 0, 996, 20, 9, 3).then("pickBatch").are("stock #", 0, 0, 987, 18, 8, 2)
                .then("restore 0").are("stock #", 5, 0, 999, 20, 9, 3);
        Sentences.test("Promise 7", "Adds units to the stock of an item.");
        Run.of(Halls.BUSY).changes("restock 3 7", "item 3 stock").are("stock #", 0, 0, 996, 27, 9, 3)
                .changes("restock 3 1", "item 3 stock").is("stock 3", 28);
        // What is restocked can be picked: order 5 wants 99 units of item 0.
        Run.of(Halls.BUSY).then("restock 0 60\npickBatch").is("pickBatch", 60).is("pickedUnits 5 0", 60).is("stock 0", 0);
        Sentences.test("Promise 7", "- `item`: an item");
        Run.of(Halls.BUSY).range("restock # 1", 0, 5, Run.INDEX);
    }
}
