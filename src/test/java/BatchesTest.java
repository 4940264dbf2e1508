/** Promises 18 to 25: batches. */
public final class BatchesTest {
    public static void main(String[] args) {
        promise18MakeBatches();
        promise18Companions();
        promise18Limits();
        promise19AddBatch();
        promise20Dissolve();
        promise21BatchCount();
        promise22BatchOrders();
        promise23BatchWeight();
        promise24Improve();
        promise24Ties();
        promise25SortByKeys();
        promise25SortBySearch();
        promise25Refused();
        Check.end("BatchesTest");
    }

    private static void batches(String what, PickHall x, int... due) {
        Check.same(what + ": number of batches", due.length, x.batchCount());
        for (int k = 0; k < due.length && k < x.batchCount(); k++) {
            Check.same(what + ": batch " + k, due[k], x.batchOrders(k));
        }
    }

    /** Weights 10, 20, 5, 30, 0, 10; aisles {0}, {0,1}, {2}, {1,2,3}, {}, {0}; due 50, 30, 10, 40, 1, 50. */
    private static PickHall sixOrders() {
        return Texts.hall("hall 4 10 2; item 0 1 1 99; item 1 1 1 99; item 2 1 1 99; item 3 1 1 99;"
                + "order 50 line 0 10; order 30 line 0 10 line 1 10; order 10 line 2 5;"
                + "order 40 line 1 10 line 2 10 line 3 10; order 1; order 50 line 0 10;");
    }

    private static void promise18MakeBatches() {
        PickHall x = sixOrders();
        Check.same("earliest first", 3, x.makeBatches(2, 35, 0));
        batches("earliest first", x, 4 + 1, 2 + 32, 8);
        Check.same("batched", 1, x.orderState(5));
        Check.same("without lines", 0, x.orderState(4));
        Check.same("nothing is left", 0, x.makeBatches(2, 35, 0));

        PickHall y = sixOrders();
        Check.same("heaviest first", 3, y.makeBatches(2, 35, 1));
        batches("heaviest first", y, 8 + 4, 2 + 1, 32);

        PickHall z = sixOrders();
        Check.same("rule 0 alone", 5, z.makeBatches(1, 99999, 0));
        batches("rule 0 alone", z, 4, 2, 8, 1, 32);
        PickHall u = sixOrders();
        u.makeBatches(1, 30, 1);
        batches("rule 1 alone", u, 8, 2, 1, 32, 4);
        PickHall v = sixOrders();
        v.makeBatches(1, 30, 2);
        batches("rule 2 alone", v, 8, 2, 1, 4, 32);

        PickHall w = sixOrders();
        Check.same("too heavy ones stay open", 2, w.makeBatches(2, 19, 0));
        batches("too heavy ones stay open", w, 4 + 1, 32);
        Check.same("all together", 1, w.makeBatches(6, 99999, 2));
        batches("present batches stay", w, 4 + 1, 32, 8 + 2);
    }

    private static void promise18Companions() {
        // Seed {0}, then order 1 (aisle 1 is new), then order 2 with the aisles 0 and 1 before the earlier order 3.
        PickHall x = Texts.hall("hall 4 10 2; item 0 1 1 99; item 1 1 1 99; item 2 1 1 99;"
                + "order 0 line 0 1; order 1 line 1 1; order 9 line 0 1 line 1 1; order 2 line 2 1;");
        x.makeBatches(3, 99, 0);
        batches("aisles of all orders count", x, 1 + 2 + 4, 8);

        // The weight of all orders counts: 10 and 10 leave no room for 11, but for 10.
        PickHall y = Texts.hall("hall 4 10 2; item 0 1 1 99; order 0 line 0 10; order 1 line 0 10;"
                + "order 2 line 0 11; order 3 line 0 10;");
        y.makeBatches(6, 30, 0);
        batches("weight of all orders", y, 1 + 2 + 8, 4);

        // One new aisle at once is worse than none at the latest time.
        PickHall z = Texts.hall("hall 4 10 2; item 0 1 1 99; item 1 1 1 99; order 0 line 0 1; order 0 line 1 1;"
                + "order 9999 line 0 1; order 9999 line 0 1;");
        z.makeBatches(2, 99, 0);
        batches("aisles before due times", z, 1 + 4, 2 + 8);

        PickHall u = Texts.hall("hall 1 2 1; item 0 1 1 9; order 1; order 9999 line 0 1;");
        Check.same("the latest due time can be a seed", 1, u.makeBatches(1, 1, 0));
        batches("the latest due time can be a seed", u, 2);
    }

    private static void promise18Limits() {
        PickHall x = sixOrders();
        Check.argument("0 orders", x, () -> x.makeBatches(0, 5, 0));
        Check.argument("7 orders", x, () -> x.makeBatches(7, 5, 0));
        Check.argument("weight 0", x, () -> x.makeBatches(1, 0, 0));
        Check.argument("weight 100000", x, () -> x.makeBatches(1, 100000, 0));
        Check.argument("rule -1", x, () -> x.makeBatches(1, 5, -1));
        Check.argument("rule 3", x, () -> x.makeBatches(1, 5, 3));
        // Of equal new aisles the earlier due time goes before the lower number.
        x.setDue(5, 49);
        x.makeBatches(2, 35, 0);
        batches("due before number", x, 4 + 32, 2 + 1, 8);

        PickHall y = Texts.hall("hall 1 2 1; item 0 1 1 9; order 9 line 0 1; order 8 line 0 1; order 7 line 0 1;"
                + "order 6 line 0 1; order 5 line 0 1; order 4 line 0 1; order 3 line 0 1; order 2 line 0 1;"
                + "order 1 line 0 1; order 0 line 0 1;");
        y.addBatch(1);
        Check.same("up to 8 batches", 7, y.makeBatches(1, 1, 0));
        batches("up to 8 batches", y, 1, 512, 256, 128, 64, 32, 16, 8);
        Check.same("full", 0, y.makeBatches(1, 1, 0));
        Check.same("open", 0, y.orderState(1));
    }

    private static void promise19AddBatch() {
        PickHall x = sixOrders();
        Check.argument("no orders", x, () -> x.addBatch(0));
        Check.argument("order 6", x, () -> x.addBatch(64 + 1));
        Check.argument("order 31", x, () -> x.addBatch(Integer.MIN_VALUE + 1));
        Check.argument("all bits", x, () -> x.addBatch(-1));
        Check.state("without lines", x, () -> x.addBatch(16 + 1));
        Check.same("first", 0, x.addBatch(1 + 8));
        Check.same("second", 1, x.addBatch(2));
        batches("added", x, 9, 2);
        Check.same("batched", 1, x.orderState(3));
        Check.state("batched already", x, () -> x.addBatch(4 + 8));
        Check.argument("order 6 before batched", x, () -> x.addBatch(64 + 8));
        x.pickBatch();
        Check.state("done", x, () -> x.addBatch(1));
        x.cancel(2);
        Check.state("cancelled", x, () -> x.addBatch(4));

        PickHall y = Texts.hall("hall 1 2 1; item 0 1 1 9; order 9 line 0 1; order 8 line 0 1; order 7 line 0 1;"
                + "order 6 line 0 1; order 5 line 0 1; order 4 line 0 1; order 3 line 0 1; order 2 line 0 1;"
                + "order 1 line 0 1;");
        for (int k = 0; k < 8; k++) {
            Check.same("batch", k, y.addBatch(1 << k));
        }
        Check.state("batch 8", y, () -> y.addBatch(256));
        Check.argument("mask before the number of batches", y, () -> y.addBatch(0));
    }

    private static void promise20Dissolve() {
        PickHall x = sixOrders();
        x.addBatch(1 + 2);
        x.addBatch(4);
        x.addBatch(8);
        Check.index("batch 3", x, () -> x.dissolve(3));
        Check.index("batch -1", x, () -> x.dissolve(-1));
        Check.same("two are left", 2, x.dissolve(0));
        batches("the others move up", x, 4, 8);
        Check.same("open", 0, x.orderState(0));
        Check.same("open", 0, x.orderState(1));
        Check.same("batched", 1, x.orderState(2));
        Check.same("one is left", 1, x.dissolve(1));
        batches("the last one", x, 4);
    }

    private static void promise21BatchCount() {
        PickHall x = sixOrders();
        Check.same("none", 0, x.batchCount());
        x.addBatch(1);
        x.addBatch(2);
        Check.same("two", 2, x.batchCount());
        x.pickBatch();
        Check.same("one is picked", 1, x.batchCount());
    }

    private static void promise22BatchOrders() {
        PickHall x = sixOrders();
        x.addBatch(1 + 4 + 32);
        Check.same("mask", 37, x.batchOrders(0));
        Check.index("batch 1", x, () -> x.batchOrders(1));
        Check.index("batch -1", x, () -> x.batchOrders(-1));
    }

    private static void promise23BatchWeight() {
        PickHall x = sixOrders();
        x.addBatch(1 + 2 + 8);
        Check.same("10 + 20 + 30", 60, x.batchWeight(0));
        Check.index("batch 1", x, () -> x.batchWeight(1));
        Check.index("batch -1", x, () -> x.batchWeight(-1));
    }

    /** Single items at (0,10), (1,10), (0,9), (1,1); batches {0,3} with the route 26 and {1,2} with 42. */
    private static PickHall crossed() {
        PickHall x = Texts.hall("hall 2 10 2; item 0 10 1 9; item 1 10 1 9; item 0 9 1 9; item 1 1 1 9;"
                + "order 1 line 0 1; order 1 line 1 1; order 1 line 2 1; order 1 line 3 1;");
        x.addBatch(1 + 8);
        x.addBatch(2 + 4);
        Check.same("route of batch 0", 26, x.batchRoute(0));
        Check.same("route of batch 1", 42, x.batchRoute(1));
        return x;
    }

    private static void promise24Improve() {
        PickHall x = crossed();
        Check.argument("0 orders", x, () -> x.improve(0, 5));
        Check.argument("7 orders", x, () -> x.improve(7, 5));
        Check.argument("weight 0", x, () -> x.improve(1, 0));
        Check.argument("weight 100000", x, () -> x.improve(1, 100000));
        Check.same("two orders at most", 0, x.improve(2, 99999));
        Check.same("weight 2 at most", 0, x.improve(6, 2));
        batches("nothing moved", x, 9, 6);
        // Order 0 goes to batch 1 (18 less, as order 2 to batch 0 would be), then order 1 to batch 0 (6 less).
        Check.same("two moves", 2, x.improve(3, 3));
        batches("moved", x, 2 + 8, 1 + 4);
        Check.same("no more", 0, x.improve(6, 99999));
        Check.same("still batched", 1, x.orderState(0));
        Check.same("without batches", 0, new PickHall().improve(1, 1));
    }

    private static void promise24Ties() {
        PickHall x = crossed();
        x.dissolve(0);
        x.dissolve(0);
        x.addBatch(8);
        x.addBatch(2);
        Check.same("the lower order moves", 1, x.improve(6, 99999));
        batches("its batch disappears", x, 8 + 2);

        PickHall y = Texts.hall("hall 1 20 1; item 0 5 1 9; item 0 10 10 9; item 0 10 10 9;"
                + "order 1 line 0 1; order 1 line 1 1; order 1 line 2 1;");
        y.addBatch(1);
        y.addBatch(2);
        y.addBatch(4);
        Check.same("to the lower batch", 1, y.improve(6, 15));
        batches("to the lower batch", y, 2 + 1, 4);
    }

    /** One aisle, no time per item: the work times are 20, 8, 12 and 8; the due times 30, 10, 20 and 10. */
    private static PickHall fourTimes() {
        return Texts.hall("hall 1 20 1; times 0 0; item 0 10 1 9; item 0 4 1 9; item 0 6 1 9;"
                + "order 30 line 0 1; order 10 line 1 1; order 20 line 2 1; order 10 line 1 1;");
    }

    private static void promise25SortByKeys() {
        PickHall x = fourTimes();
        x.addBatch(1);
        x.addBatch(8);
        x.addBatch(4);
        x.addBatch(2);
        // By due: 8 (10), 2 (10), 4 (20), 1 (30): completed at 8, 16, 28, 48.
        Check.same("by due time", 0 + 6 + 8 + 18, x.sortBatches(0));
        batches("by due time", x, 8, 2, 4, 1);
        x.setDue(2, 5);
        x.setTimes(0, 0);
        Check.same("by work time", 0 + 6 + 23 + 18, x.sortBatches(1));
        batches("by work time, equal ones stay", x, 8, 2, 4, 1);
        Check.same("by due time again", 7 + 10 + 18 + 18, x.sortBatches(0));
        batches("by due time again", x, 4, 8, 2, 1);

        PickHall y = fourTimes();
        y.addBatch(1 + 2);
        y.addBatch(4);
        y.sortBatches(0);
        batches("the earliest order of a batch counts", y, 3, 4);
        y.sortBatches(1);
        batches("the work of a batch counts", y, 4, 3);
        Check.same("without batches", 0, new PickHall().sortBatches(1));

        PickHall z = Texts.hall("hall 2 20 9; zones 1; times 0 0; item 0 10 1 9; item 1 3 1 9; item 1 9 1 9;"
                + "order 0 line 0 1 line 1 1; order 0 line 2 1;");
        z.addBatch(1);
        z.addBatch(2);
        // 20 + 6 against 18: the sum over the zones, not the last zone.
        z.sortBatches(1);
        batches("work of all zones", z, 2, 1);
    }

    private static void promise25SortBySearch() {
        PickHall x = fourTimes();
        x.addBatch(1);
        x.addBatch(2);
        x.addBatch(4);
        Check.same("as it is", 0 + 18 + 20, x.totalTardiness());
        Check.same("least", 10, x.sortBatches(2));
        batches("least", x, 2, 4, 1);

        PickHall y = fourTimes();
        y.addBatch(1);
        y.addBatch(2);
        y.addBatch(4);
        y.setDue(0, 100);
        y.setDue(1, 8);
        y.setDue(2, 100);
        Check.same("nothing is late", 0, y.sortBatches(2));
        batches("lexicographically first", y, 2, 1, 4);
        y.setDue(1, 100);
        y.sortBatches(2);
        batches("as it is", y, 2, 1, 4);
        Check.same("without batches", 0, new PickHall().sortBatches(2));
    }

    private static void promise25Refused() {
        PickHall x = Texts.hall("hall 1 2 1; item 0 1 1 9; order 9 line 0 1; order 8 line 0 1; order 7 line 0 1;"
                + "order 6 line 0 1; order 5 line 0 1; order 4 line 0 1; order 3 line 0 1;");
        for (int k = 0; k < 6; k++) {
            x.addBatch(1 << k);
        }
        Check.argument("rule -1", x, () -> x.sortBatches(-1));
        Check.argument("rule 3", x, () -> x.sortBatches(3));
        // Six times 3: completed at 3, 6, .., 18; by due times 4 to 9 that is 0 + 1 + 3 + 5 + 7 + 9.
        Check.same("six batches", 25, x.sortBatches(2));
        Check.same("the sequence has this sum", 25, x.totalTardiness());
        x.addBatch(64);
        Check.state("seven batches", x, () -> x.sortBatches(2));
        Check.argument("rule before the number of batches", x, () -> x.sortBatches(3));
        Check.same("seven by due time", 0 + 2 + 4 + 6 + 8 + 10 + 12, x.sortBatches(0));
        batches("seven by due time", x, 64, 32, 16, 8, 4, 2, 1);
    }
}
