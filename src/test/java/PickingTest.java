/** Promises 47 to 52: picking, shortages and ordering again. */
public final class PickingTest {
    public static void main(String[] args) {
        promise47PickBatch();
        promise48And49Units();
        promise50And51Totals();
        promise52Reorder();
        promise52Refused();
        Check.end("PickingTest");
    }

    /** Stocks 10, 5 and 0. Order 1 is due before order 0, but is served after it. */
    private static PickHall shortStock() {
        PickHall x = Texts.hall("hall 1 5 1; item 0 1 1 10; item 0 2 1 5; item 0 3 1 0;"
                + "order 1 line 0 7 line 1 2; order 0 line 2 4 line 1 9 line 0 8; order 2 line 0 1;");
        x.addBatch(3);
        x.addBatch(4);
        return x;
    }

    private static void units(String what, PickHall x, int order, int line, int picked, int missing) {
        Check.same(what + ", picked", picked, x.pickedUnits(order, line));
        Check.same(what + ", short", missing, x.shortUnits(order, line));
    }

    private static void promise47PickBatch() {
        PickHall x = shortStock();
        Check.same("units", 7 + 2 + 0 + 3 + 3, x.pickBatch());
        Check.same("stock 0", 0, x.stock(0));
        Check.same("stock 1", 0, x.stock(1));
        Check.same("stock 2", 0, x.stock(2));
        Check.same("done", 2, x.orderState(0));
        Check.same("done", 2, x.orderState(1));
        Check.same("still batched", 1, x.orderState(2));
        Check.same("the next batch is 0", 4, x.batchOrders(0));
        Check.same("one batch is left", 1, x.batchCount());
        x.restock(0, 3);
        Check.same("one unit", 1, x.pickBatch());
        Check.same("stock 0", 2, x.stock(0));
        Check.state("no batches", x, () -> x.pickBatch());
    }

    private static void promise48And49Units() {
        PickHall x = shortStock();
        units("batched", x, 1, 0, 0, 0);
        x.pickBatch();
        units("order 0, line 0", x, 0, 0, 7, 0);
        units("order 0, line 1", x, 0, 1, 2, 0);
        units("order 1, line 0", x, 1, 0, 0, 4);
        units("order 1, line 1", x, 1, 1, 3, 6);
        units("order 1, line 2", x, 1, 2, 3, 5);
        units("not done", x, 2, 0, 0, 0);
        Check.index("picked, order 3", x, () -> x.pickedUnits(3, 0));
        Check.index("picked, order -1", x, () -> x.pickedUnits(-1, 0));
        Check.index("picked, line 2", x, () -> x.pickedUnits(0, 2));
        Check.index("picked, line -1", x, () -> x.pickedUnits(0, -1));
        Check.index("short, order 3", x, () -> x.shortUnits(3, 0));
        Check.index("short, order -1", x, () -> x.shortUnits(-1, 0));
        Check.index("short, line 2", x, () -> x.shortUnits(0, 2));
        Check.index("short, line -1", x, () -> x.shortUnits(0, -1));
    }

    private static void promise50And51Totals() {
        PickHall x = shortStock();
        Check.same("nothing ordered", 0, x.totalOrdered());
        Check.same("nothing picked", 0, x.totalPicked());
        x.pickBatch();
        Check.same("ordered", 9 + 21, x.totalOrdered());
        Check.same("picked", 15, x.totalPicked());
        x.pickBatch();
        Check.same("ordered", 31, x.totalOrdered());
        Check.same("picked", 15, x.totalPicked());
    }

    private static void promise52Reorder() {
        PickHall x = shortStock();
        x.pickBatch();
        Check.same("new order", 3, x.reorder(1, 9999));
        Check.same("open", 0, x.orderState(3));
        Check.same("due", 9999, x.due(3));
        Check.same("three lines", 3, x.lineCount(3));
        Check.same("weight", 4 + 6 + 5, x.orderWeight(3));
        x.restock(2, 2);
        x.restock(1, 6);
        x.dissolve(0);
        x.addBatch(8);
        Check.same("picked", 8, x.pickBatch());
        units("line 0", x, 3, 0, 2, 2);
        units("line 1", x, 3, 1, 6, 0);
        units("line 2", x, 3, 2, 0, 5);
        Check.same("and again", 4, x.reorder(3, 0));
        Check.same("only what is short", 2, x.lineCount(4));
        Check.same("weight", 2 + 5, x.orderWeight(4));
        Check.same("the old one keeps its lines", 3, x.lineCount(3));
        x.addBatch(16);
        x.restock(0, 5);
        x.pickBatch();
        units("line 0 is of item 2", x, 4, 0, 0, 2);
        units("line 1 is of item 0", x, 4, 1, 5, 0);
    }

    private static void promise52Refused() {
        PickHall x = shortStock();
        Check.state("batched", x, () -> x.reorder(1, 5));
        x.dissolve(1);
        Check.state("open", x, () -> x.reorder(2, 5));
        x.cancel(2);
        Check.state("cancelled", x, () -> x.reorder(2, 5));
        x.pickBatch();
        Check.state("nothing short", x, () -> x.reorder(0, 5));
        Check.argument("due -1", x, () -> x.reorder(1, -1));
        Check.argument("due 10000 before state", x, () -> x.reorder(0, 10000));
        Check.index("order 3 before due", x, () -> x.reorder(3, -1));
        Check.index("order -1", x, () -> x.reorder(-1, 0));
        while (x.orderCount() < 16) {
            x.addOrder(1);
        }
        Check.state("16 orders", x, () -> x.reorder(1, 5));

        PickHall y = shortStock();
        y.pickBatch();
        y.reorder(1, 5);
        Check.state("ordered again before", y, () -> y.reorder(1, 5));
        y.cancel(3);
        Check.state("even if that one is cancelled", y, () -> y.reorder(1, 5));
    }
}
