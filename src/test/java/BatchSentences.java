/** The sentences about the batches: promises 18 to 25. */
final class BatchSentences {
    private static final String SECTION = "BATCHES";

    /** An item of the weight 1 at place 1 of each of 4 aisles. */
    private static final String ITEMS = "addItem 0 1 1 99\naddItem 1 1 1 99\naddItem 2 1 1 99\naddItem 3 1 1 99\n";

    private BatchSentences() {
    }

    static void run() {
        sequence();
        candidates();
        seeds();
        companions();
        promise18();
        promise19();
        promise19Refused();
        promise20To23();
        promise24();
        promise24Moves();
        promise25();
        promise25Ties();
        promise25Search();
        batchesPlain();
        promise18And19Plain();
        promise20To25Plain();
    }

    /** A hall with the items above; the orders of the script "due item quantity item quantity, due ..". */
    private static Run orders(String script) {
        Run x = Run.of(ITEMS);
        String[] orders = script.split(",");
        for (int order = 0; order < orders.length; order++) {
            String[] words = orders[order].trim().split(" ");
            x.then("addOrder " + words[0]);
            for (int k = 1; k < words.length; k += 2) {
                x.then("addLine " + order + " " + words[k] + " " + words[k + 1]);
            }
        }
        return x;
    }

    /** Order k has one unit of item 0, and the due time k. */
    private static Run equalOrders(int count) {
        StringBuilder script = new StringBuilder();
        for (int order = 0; order < count; order++) {
            script.append(order == 0 ? "" : ",").append(order).append(" 0 1");
        }
        return orders(script.toString());
    }

    private static void sequence() {
        Sentences.test(SECTION, "There are at most 8 batches.");
        Run x = equalOrders(9);
        for (int batch = 0; batch < 8; batch++) {
            x.is("addBatch " + (1 << batch), batch);
        }
        x.is("batchCount", 8).refuses("addBatch 256", Run.STATE).is("makeBatches 1 1 0", 0).is("batchCount", 8)
                .then("dissolve 3").is("addBatch 256", 7).refuses("addBatch 8", Run.STATE);

        Sentences.test(SECTION, "The batches form a sequence and are numbered from 0 in this sequence");
        Run.of(Halls.FULL).batches(1, 2, 4, 8, 16, 32, 64, 128)
                .then("dissolve 0").batches(2, 4, 8, 16, 32, 64, 128)
                .then("dissolve 6").batches(2, 4, 8, 16, 32, 64)
                .then("cancel 3").batches(2, 4, 16, 32, 64)
                .then("pickBatch").batches(4, 16, 32, 64).refuses("batchOrders 4", Run.INDEX);

        Sentences.test(SECTION, "A batch without orders disappears.");
        equalOrders(3).then("addBatch 1\naddBatch 6").is("cancel 1", 2).batches(1, 4).is("cancel 0", 1).batches(4)
                .is("cancel 2", 0).batches();

        Sentences.test(SECTION, "The items of a batch are the items of all lines of its orders, each of them once.");
        Run y = orders("1 0 99 1 1, 1 0 1 2 1, 1 0 5").then("addBatch 7").stops(0, 0, 0, 1, 2);
        y.lengths(0, 0, 8 + 6, 8 + 22 + 2, 8 + 22 + 2, 8 + 6).is("workTime 0 0", 14 + 3);
    }

    private static void candidates() {
        Sentences.test(SECTION, "Batches are made by seeds like this, with a greatest number of orders");
        // Of the weight 10, of 11, without lines, cancelled, in a batch already, done, and of the weight 1.
        orders("1 0 10, 1 0 11, 1, 1 0 1, 1 0 1, 1 0 1, 1 0 1").then("cancel 3\naddBatch 32\npickBatch\naddBatch 16")
                .is("makeBatches 6 10 0", 2).batches(16, 1, 64).are("orderState #", 1, 0, 0, 3, 1, 2, 1);
        orders("1 0 10").is("makeBatches 6 9 0", 0).batches().is("makeBatches 6 10 0", 1).batches(1);
        orders("1, 2").is("makeBatches 6 99999 2", 0).batches();

        Sentences.test(SECTION, "As long as there are candidates and fewer than 8 batches, a new batch is made");
        equalOrders(10).is("makeBatches 1 1 0", 8).batches(1, 2, 4, 8, 16, 32, 64, 128)
                .is("orderState 7", 1).is("orderState 8", 0).is("orderState 9", 0).is("makeBatches 6 99999 0", 0);
        equalOrders(9).then("addBatch 256\naddBatch 1\naddBatch 2\naddBatch 4\naddBatch 8\naddBatch 16\naddBatch 32")
                .is("makeBatches 1 1 1", 1).is("batchOrders 7", 64).is("orderState 7", 0);
        equalOrders(8).is("makeBatches 1 1 2", 8).is("orderState 7", 1).is("makeBatches 1 1 2", 0);
    }

    private static void seeds() {
        Sentences.test(SECTION, "The seed is the best candidate by the seed rule, of several the one with the lowest");
        orders("9999 0 1, 0 1 1, 0 2 1, 1 3 1").is("makeBatches 1 99 0", 4).batches(2, 4, 8, 1);
        orders("0 0 1, 9 1 99, 8 2 99, 7 3 98").is("makeBatches 1 99 1", 4).batches(2, 4, 8, 1);
        // The latest due time can be that of a seed, and the lowest number need not be a candidate.
        orders("0, 9999 0 1").is("makeBatches 1 99 0", 1).batches(2);
        orders("0, 9998 0 1, 9999 0 1").is("makeBatches 1 99 0", 2).batches(2, 4);
        // The aisles count, not the lines: order 0 has two lines in one aisle.
        Run.of(ITEMS + "addItem 0 2 1 9").then("addOrder 0\naddLine 0 0 1\naddLine 0 4 1\naddOrder 9\naddLine 1 2 1\n"
                + "addLine 1 3 1\naddOrder 8\naddLine 2 0 1\naddLine 2 1 1\naddOrder 7\naddLine 3 1 1")
                .is("makeBatches 1 99 2", 4).batches(2, 4, 1, 8);
    }

    private static void companions() {
        Sentences.test(SECTION, "Then, as long as the batch has fewer than the greatest number of orders");
        equalOrders(7).is("makeBatches 6 99 0", 2).batches(63, 64);
        equalOrders(3).is("makeBatches 1 99 0", 3).batches(1, 2, 4);
        // Just not too heavy (5 + 5), and by one unit too heavy (5 + 6).
        orders("0 0 5, 1 0 6, 2 0 5").is("makeBatches 6 10 0", 2).batches(5, 2);
        orders("0 0 5, 1 0 6, 2 0 5").is("makeBatches 6 11 0", 2).batches(3, 4);
        // Fewest new aisles; equal ones by the earlier due time; then by the lower number.
        orders("0 0 1, 1 1 1, 9999 0 9").is("makeBatches 2 99 0", 2).batches(5, 2);
        orders("0 0 1, 6 1 1, 5 2 1").is("makeBatches 2 99 0", 2).batches(5, 2);
        orders("0 0 1, 5 1 1, 5 2 1, 5 0 1 3 1").is("makeBatches 2 99 0", 2).batches(3, 12);
        orders("0 0 1, 0 1 1, 9999 0 1").is("makeBatches 2 99 0", 2).batches(5, 2);
        // Aisle 0 is as new as the others for a seed in aisle 1; the added one can be order 0.
        orders("1 2 1, 9 0 1, 0 1 1").is("makeBatches 2 99 0", 2).batches(5, 2);
        orders("9 3 1 2 1, 8 0 1 3 1, 0 3 1").is("makeBatches 2 99 0", 2).batches(6, 1);
        // None fits, although there are candidates: the batch stays with its seed.
        orders("0 0 9, 1 0 8, 2 0 7").is("makeBatches 6 9 0", 3).batches(1, 2, 4);
    }

    private static void promise18() {
        Sentences.test("Promise 18", "Makes batches by seeds; the present batches stay as they are.");
        equalOrders(4).then("addBatch 8\naddBatch 2").is("makeBatches 6 99 0", 1).batches(8, 2, 5);
        Sentences.test("Promise 18", "- `orders`: the greatest number of orders of a batch, 1 to 6");
        Run.of(Halls.BUSY).range("makeBatches # 5 0", 1, 6, Run.ARGUMENT);
        Sentences.test("Promise 18", "- `weight`: the greatest weight of a batch, 1 to 99999");
        Run.of(Halls.BUSY).range("makeBatches 2 # 1", 1, 99999, Run.ARGUMENT);
        equalOrders(2).is("makeBatches 6 1 0", 2).batches(1, 2);
        // Orders 15, 13, 9 and 10 weigh 3 * 29700 + 4950; a fourth order of 29700 is too much for 99999.
        Run heavy = Run.of(Halls.FULL).then("dissolve 0").is("makeBatches 6 99999 0", 1);
        heavy.is("batchOrders 7", 42496).is("batchWeight 7", 94050);
        Run.of(Halls.FULL).then("dissolve 0").is("makeBatches 6 94050 0", 1).is("batchOrders 7", 42496);
        Run.of(Halls.FULL).then("dissolve 0").is("makeBatches 6 94049 0", 1).is("batchOrders 7", 42496 - 1024);
        Sentences.test("Promise 18", "- `rule`: the seed rule, 0 to 2");
        Run.of(Halls.BUSY).range("makeBatches 2 5 #", 0, 2, Run.ARGUMENT);
        Sentences.test("Promise 18", "Throws `IllegalArgumentException` if an argument is out of range");
        for (String hall : new String[] {Halls.NEW, Halls.FULL}) {
            Run.of(hall).refuses("makeBatches 0 1 0", Run.ARGUMENT).refuses("makeBatches 7 1 0", Run.ARGUMENT)
                    .refuses("makeBatches 1 0 0", Run.ARGUMENT).refuses("makeBatches 1 100000 0", Run.ARGUMENT)
                    .refuses("makeBatches 1 1 -1", Run.ARGUMENT).refuses("makeBatches 1 1 3", Run.ARGUMENT)
                    .refuses("makeBatches MIN MAX MIN", Run.ARGUMENT).is("makeBatches 6 99999 2", 0);
        }
    }

    private static void promise19() {
        Sentences.test("Promise 19", "- `orders`: the orders as a bit mask, at least one");
        equalOrders(16).is("addBatch 32768", 0).is("addBatch 32767", 1).batches(32768, 32767);
        equalOrders(16).is("addBatch 65535", 0).batches(65535).is("batchWeight 0", 16);
        equalOrders(1).range("addBatch #", 1, 1, Run.ARGUMENT);
        Sentences.test("Promise 19", "Throws `IllegalArgumentException` if the mask is 0 or contains an order that");
        Run.of(Halls.NEW).noneOf("addBatch #", Run.ARGUMENT);
        equalOrders(16).refuses("addBatch 0", Run.ARGUMENT).refuses("addBatch 65536", Run.ARGUMENT)
                .refuses("addBatch 65537", Run.ARGUMENT).refuses("addBatch -1", Run.ARGUMENT)
                .refuses("addBatch MIN", Run.ARGUMENT).refuses("addBatch MAX", Run.ARGUMENT)
                .refuses("addBatch -32768", Run.ARGUMENT);
        // Before the states of the other orders in the mask: DONE, without lines, and 8 batches.
        Run.of(Halls.BUSY).refuses("addBatch 513", Run.ARGUMENT).refuses("addBatch 576", Run.ARGUMENT)
                .refuses("addBatch 512", Run.ARGUMENT);
        Run.of(Halls.FULL).refuses("addBatch 0", Run.ARGUMENT).refuses("addBatch 65536", Run.ARGUMENT);
    }

    private static void promise19Refused() {
        Sentences.test("Promise 19", "Throws `IllegalStateException` if one of the orders is not OPEN or has no lines");
        // Alone and beside order 8, which is good: DONE, BATCHED, without lines, CANCELLED.
        for (int order : new int[] {0, 1, 2, 3, 4, 5, 6, 7}) {
            Run.of(Halls.BUSY).refuses("addBatch " + (1 << order), Run.STATE)
                    .refuses("addBatch " + (256 | 1 << order), Run.STATE).is("addBatch 256", 2);
        }
        Run.of(Halls.FULL).refuses("addBatch 512", Run.STATE).refuses("addBatch 2048", Run.STATE)
                .then("dissolve 7").refuses("addBatch 2048", Run.STATE).is("addBatch 512", 7);
    }

    private static void promise20To23() {
        Sentences.test("Promise 20", "Returns the number of batches that are left.");
        Run.of(Halls.FULL).is("dissolve 7", 7).is("dissolve 0", 6).is("orderState 0", 0).is("orderState 7", 0);
        equalOrders(1).then("addBatch 1").is("dissolve 0", 0).batches().refuses("dissolve 0", Run.INDEX);
        Sentences.test("Promise 20", "Throws `IndexOutOfBoundsException` if there is no such batch");
        noSuchBatch("dissolve #");
        Sentences.test("Promise 21", "Returns the number of batches.");
        Run.of(Halls.NEW).is("batchCount", 0);
        Run.of(Halls.FULL).is("batchCount", 8);
        Sentences.test("Promise 22", "Throws `IndexOutOfBoundsException` if there is no such batch");
        noSuchBatch("batchOrders #");
        Sentences.test("Promise 23", "Returns its weight.");
        Run.of(Halls.FULL).then("dissolve 7").is("addBatch 62080", 7).is("batchWeight 7", 6 * 29700);
        Sentences.test("Promise 23", "Throws `IndexOutOfBoundsException` if there is no such batch");
        noSuchBatch("batchWeight #");
    }

    private static void noSuchBatch(String call) {
        Run.of(Halls.NEW).noneOf(call, Run.INDEX);
        Run.of(Halls.BUSY).range(call, 0, 1, Run.INDEX);
        Run.of(Halls.FULL).range(call, 0, 7, Run.INDEX);
    }

    private static void promise24() {
        Sentences.test("Promise 24", "- `orders`: the greatest number of orders of a batch, 1 to 6");
        Run.of(Halls.BUSY).range("improve # 5", 1, 6, Run.ARGUMENT);
        Sentences.test("Promise 24", "- `weight`: the greatest weight of a batch, 1 to 99999");
        Run.of(Halls.BUSY).range("improve 5 #", 1, 99999, Run.ARGUMENT);
        Sentences.test("Promise 24", "Throws `IllegalArgumentException` if an argument is out of range");
        for (String hall : new String[] {Halls.NEW, Halls.FULL}) {
            Run.of(hall).refuses("improve 0 1", Run.ARGUMENT).refuses("improve 7 1", Run.ARGUMENT)
                    .refuses("improve 1 0", Run.ARGUMENT).refuses("improve 1 100000", Run.ARGUMENT)
                    .refuses("improve MIN MAX", Run.ARGUMENT).is("improve 1 1", 0);
        }
        Sentences.test("Promise 24", "A batch that loses its last order disappears.");
        // Eight batches of one order at the same place: a move saves a route if the order is alone in its batch.
        equalOrders(8).then("makeBatches 1 1 0").is("improve 1 99", 0).is("improve 6 1", 0).is("batchCount", 8)
                .is("improve 2 2", 4).batches(3, 12, 48, 192).is("improve 6 99999", 0);
        equalOrders(8).then("makeBatches 1 1 0").is("improve 6 99999", 6).batches(63, 192);
        equalOrders(8).then("makeBatches 1 1 0").is("improve 6 5", 6).batches(31, 224);
        equalOrders(1).then("addBatch 1").is("improve 6 99999", 0).batches(1);
    }

    private static void promise24Moves() {
        Sentences.test("Promise 24", "Improves the batches: as long as it makes the sum of the route lengths of all");
        // In two zones of one aisle each, the routes are as long together as alone: no move makes the sum less.
        orders("1 0 1, 1 1 1").then("setZones 1 -1\naddBatch 1\naddBatch 2").is("improve 6 99999", 0).batches(1, 2)
                .then("setZones -1 -1").is("improve 6 99999", 0).batches(1, 2);
        // The limits hold for the batch that gets the order: 2 orders, 3 units.
        orders("1 0 2, 1 0 1").then("addBatch 1\naddBatch 2").is("improve 1 99999", 0).is("improve 6 2", 0).batches(1, 2)
                .is("improve 2 3", 1).batches(3);
        // The batch that loses the order may be above both limits.
        orders("1 0 1, 1 1 9, 1 1 9, 1 1 9, 1 0 1").then("addBatch 15\naddBatch 16").is("improve 2 2", 1)
                .batches(14, 17);

        Sentences.test("Promise 24", "Of all such moves, the one with the greatest decrease is made, of several the one");
        // Any order may join any other one, and all moves are equal: order 0 goes to batch 0, where order 3 is.
        equalOrders(4).then("addBatch 8\naddBatch 4\naddBatch 2\naddBatch 1").is("improve 2 99", 2).batches(9, 6);
        // Order 0 is in batch 0 itself, so the lowest batch that it can go to is 1.
        equalOrders(3).then("addBatch 1\naddBatch 4\naddBatch 2").is("improve 2 99", 1).batches(5, 2);
        // Item 1 of order 1 is farther away than item 0, so to join the orders 1 and 2 saves more.
        orders("1 0 1, 1 1 1, 1 1 1, 1 0 1").then("addBatch 1\naddBatch 2\naddBatch 4\naddBatch 8")
                .is("improve 2 99", 2).batches(6, 9);
    }

    private static void promise25() {
        Sentences.test("Promise 25", "- `rule`: 0 to 2");
        Run.of(Halls.BUSY).range("sortBatches #", 0, 2, Run.ARGUMENT);
        Run.of(Halls.NEW).range("sortBatches #", 0, 2, Run.ARGUMENT);
        Sentences.test("Promise 25", "Throws `IllegalArgumentException` if rule is out of range");
        Run.of(Halls.FULL).refuses("sortBatches -1", Run.ARGUMENT).refuses("sortBatches 3", Run.ARGUMENT)
                .refuses("sortBatches MIN", Run.ARGUMENT).refuses("sortBatches MAX", Run.ARGUMENT);
        Sentences.test("Promise 25", "Throws `IllegalStateException` if rule is 2 and there are more than 6 batches");
        Run.of(Halls.FULL).refuses("sortBatches 2", Run.STATE).then("dissolve 7").refuses("sortBatches 2", Run.STATE)
                .then("sortBatches 0\nsortBatches 1\ndissolve 6\nsortBatches 2").is("batchCount", 6);
    }

    private static void promise25Ties() {
        Sentences.test("Promise 25", "Rule 0 orders them by the earliest due time of their orders, rule 1 by the sum");
        // The earliest of the due times 9999 and 0 is 0; the due times 5 and 5 are equal.
        orders("5 0 1, 5 0 1, 9999 0 1, 0 0 1").then("addBatch 2\naddBatch 1\naddBatch 12")
                .is("sortBatches 0", 0 + 3 + 1 + 4).batches(12, 2, 1);
        // The earliest order of a batch is its lowest one, or its highest one.
        orders("1 0 1, 9 0 1, 2 0 1, 8 0 1, 9 0 1, 0 0 1").then("addBatch 12\naddBatch 3\naddBatch 48")
                .then("sortBatches 0").batches(48, 3, 12);
        // Work times 7, 3, 7, 3 and 3: equal ones stay as they are.
        orders("0 0 1, 0 1 1, 0 0 1, 0 0 1, 0 1 1").then("addBatch 16\naddBatch 8\naddBatch 2\naddBatch 1\naddBatch 4")
                .is("workTime 0 0", 7).is("workTime 1 0", 3).is("sortBatches 1", 3 + 6 + 9 + 16 + 23)
                .batches(8, 1, 4, 16, 2);
        Run.of(Halls.FULL).then("sortBatches 0").batches(128, 64, 32, 16, 8, 4, 2, 1);
        // A sequence that is ascending already stays, by both rules; then one batch alone.
        orders("1 0 1, 2 1 1, 3 2 1").then("addBatch 1\naddBatch 2\naddBatch 4\nsortBatches 0").batches(1, 2, 4)
                .then("sortBatches 1").batches(1, 2, 4).then("setDue 2 0\nsortBatches 0").batches(4, 1, 2)
                .then("sortBatches 1").batches(1, 2, 4).then("setDue 2 0\nsortBatches 0\ndissolve 1\ndissolve 0\nsortBatches 0")
                .batches(2);
        Run.of(Halls.NEW).are("sortBatches #", 0, 0, 0);
        orders("1 0 1").then("addBatch 1").are("sortBatches #", 2, 2, 2).batches(1);
    }

    private static void promise25Search() {
        Sentences.test("Promise 25", "Rule 2 takes the sequence with the least total tardiness; of several the one");
        // Six equal work times of 3 and nothing late: the present sequence is the lexicographically first one.
        orders("99 0 1, 99 0 1, 99 0 1, 99 0 1, 99 0 1, 99 0 1")
                .then("addBatch 32\naddBatch 1\naddBatch 16\naddBatch 2\naddBatch 8\naddBatch 4")
                .is("sortBatches 2", 0).batches(32, 1, 16, 2, 8, 4)
                // Order 2, in the last batch, must come first now; then one of the orders 2 and 3 is late by 3.
                .then("setDue 2 3").is("sortBatches 2", 0).batches(4, 32, 1, 16, 2, 8)
                .then("setDue 3 3").is("sortBatches 2", 3).batches(4, 8, 32, 1, 16, 2);
        // All are late whatever comes first: the sum is the same for each sequence.
        orders("0 0 1, 0 0 1, 0 0 1, 0 0 1, 0 0 1, 0 0 1")
                .then("addBatch 8\naddBatch 4\naddBatch 2\naddBatch 1\naddBatch 32\naddBatch 16")
                .is("sortBatches 2", 3 + 6 + 9 + 12 + 15 + 18).batches(8, 4, 2, 1, 32, 16);
        Sentences.test("Promise 25", "Returns the total tardiness then.");
        orders("2 0 1, 0 1 1").then("addBatch 2\naddBatch 1").is("totalTardiness", 7 + 8)
                .is("sortBatches 2", 1 + 10).is("totalTardiness", 11).batches(1, 2);
    }

    private static void batchesPlain() {
        Sentences.test(SECTION, "A batch is a set of orders that are picked together; these orders are BATCHED.");
        equalOrders(4).then("addBatch 10").are("orderState #", 0, 1, 0, 1).batches(10).then("pickBatch")
                .are("orderState #", 0, 2, 0, 2).batches();
        equalOrders(4).then("makeBatches 2 99 0").are("orderState #", 1, 1, 1, 1).batches(3, 12).then("pickBatch")
                .are("orderState #", 2, 2, 1, 1).batches(12);
        Sentences.test(SECTION, "The weight of a batch is the sum of the weights of its orders.");
        Run.of(Halls.BUSY).are("orderWeight #", 20, 150, 12, 6, 451, 198).are("batchWeight #", 6 + 451, 198);
        orders("1 0 10 1 20, 1 0 30, 1 3 5").then("addBatch 5\naddBatch 2").are("batchWeight #", 35, 30)
                .then("cancel 0").are("batchWeight #", 5, 30);
    }

    private static void promise18And19Plain() {
        Sentences.test("Promise 18", "Returns the number of new batches.");
        equalOrders(5).then("addBatch 1").is("makeBatches 2 99 0", 2).batches(1, 6, 24).is("makeBatches 2 99 0", 0);
        equalOrders(5).is("makeBatches 5 99 0", 1).batches(31);
        Sentences.test("Promise 19", "Adds a batch at the end of the sequence.");
        equalOrders(5).changes("addBatch 12", "batches", "order 2 state", "order 3 state").batches(12)
                .changes("addBatch 1", "batches", "order 0 state").batches(12, 1)
                .changes("addBatch 18", "batches", "order 1 state", "order 4 state").batches(12, 1, 18)
                .are("orderState #", 1, 1, 1, 1, 1);
        // More orders and more weight than makeBatches could ever put together.
        Run.of(Halls.FULL).then("dissolve 0\n".repeat(8) + "addBatch 63231").batches(63231).is("batchWeight 0", 13 * 29700 + 4950);
        Sentences.test("Promise 19", "Returns the number of the batch.");
        equalOrders(5).is("addBatch 16", 0).is("addBatch 3", 1).is("addBatch 8", 2).then("dissolve 0").is("addBatch 16", 2);
    }

    private static void promise20To25Plain() {
        Sentences.test("Promise 20", "Removes a batch; its orders are OPEN then.");
        equalOrders(5).then("addBatch 3\naddBatch 12\naddBatch 16")
                .changes("dissolve 1", "batches", "order 2 state", "order 3 state").batches(3, 16).are("orderState #", 1, 1, 0, 0, 1)
                .changes("dissolve 1", "batches", "order 4 state").batches(3).is("addBatch 28", 1);
        String[] names = {"dissolve", "", "batchOrders", "batchWeight"};
        for (int k = 0; k < names.length; k++) {
            if (!names[k].isEmpty()) {
                Sentences.test("Promise " + (20 + k), "- `batch`: a batch");
                equalOrders(3).then("addBatch 4\naddBatch 2\naddBatch 1").range(names[k] + " #", 0, 2, Run.INDEX);
            }
        }
        Sentences.test("Promise 22", "Returns its orders as a bit mask.");
        Run.of(Halls.BUSY).are("batchOrders #", 1 << 3 | 1 << 4, 1 << 5).then("addBatch 256").is("batchOrders 2", 1 << 8);
        Sentences.test("Promise 24", "Returns the number of moves.");
        // Item 0 is 2 away and item 1 is 2 + 4 away. Orders 0 and 2 join their like, one move each; then nothing is gained.
        orders("1 0 1, 1 0 1, 1 1 1, 1 1 1").then("addBatch 1\naddBatch 2\naddBatch 4\naddBatch 8").is("savedDistance", 0)
                .is("improve 2 99", 2).batches(3, 12).is("savedDistance", 2 + 6).is("improve 2 99", 0);
        Sentences.test("Promise 25", "Brings the batches into another sequence.");
        // The orders stay together, and everything but the sequence stays as it is.
        orders("9 0 1, 8 1 1, 7 2 1, 1 3 1").then("addBatch 3\naddBatch 4\naddBatch 8").changes("sortBatches 0", "batches")
                .batches(8, 4, 3).changes("sortBatches 1", "batches").batches(3, 4, 8);
    }
}
