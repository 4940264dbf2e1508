/** Promises 8 to 17: orders and their lines. */
public final class OrdersTest {
    public static void main(String[] args) {
        promise08AddOrder();
        promise09AddLine();
        promise10OrderCount();
        promise11OrderState();
        promise12LineCount();
        promise13Due();
        promise14SetDue();
        promise15OrderWeight();
        promise16OrderAisles();
        promise17Cancel();
        Check.end("OrdersTest");
    }

    /** Eight items, two in each aisle, with the weights 1 to 8; order 0 and 1 have a line each. */
    private static PickHall stocked() {
        PickHall x = new PickHall();
        for (int k = 0; k < 8; k++) {
            x.addItem(k / 2, 1 + k, 1 + k, 10);
        }
        x.addOrder(100);
        x.addLine(0, 0, 2);
        x.addOrder(200);
        x.addLine(1, 7, 3);
        return x;
    }

    private static void promise08AddOrder() {
        PickHall x = new PickHall();
        Check.argument("due -1", x, () -> x.addOrder(-1));
        Check.argument("due 10000", x, () -> x.addOrder(10000));
        for (int k = 0; k < 16; k++) {
            Check.same("order", k, x.addOrder(k % 2 == 0 ? 0 : 9999));
        }
        Check.same("open", 0, x.orderState(15));
        Check.same("without lines", 0, x.lineCount(15));
        Check.state("order 16", x, () -> x.addOrder(1));
        Check.argument("due before the number of orders", x, () -> x.addOrder(10000));
    }

    private static void promise09AddLine() {
        PickHall x = stocked();
        x.addOrder(5);
        Check.index("order 3", x, () -> x.addLine(3, 0, 1));
        Check.index("order -1", x, () -> x.addLine(-1, 0, 1));
        Check.index("item 8", x, () -> x.addLine(2, 8, 1));
        Check.index("item -1 before quantity", x, () -> x.addLine(2, -1, 0));
        Check.argument("quantity 0", x, () -> x.addLine(2, 0, 0));
        Check.argument("quantity 100", x, () -> x.addLine(2, 0, 100));
        for (int k = 0; k < 6; k++) {
            Check.same("line", k, x.addLine(2, k, k == 0 ? 99 : 1));
        }
        Check.state("line 6", x, () -> x.addLine(2, 6, 1));
        Check.argument("quantity before the number of lines", x, () -> x.addLine(2, 6, 100));
        Check.state("item 0 again", x, () -> x.addLine(0, 0, 1));
        x.addBatch(1);
        Check.state("batched", x, () -> x.addLine(0, 1, 1));
        x.pickBatch();
        Check.state("done", x, () -> x.addLine(0, 1, 1));
        x.cancel(1);
        Check.state("cancelled", x, () -> x.addLine(1, 1, 1));
    }

    private static void promise10OrderCount() {
        PickHall x = stocked();
        x.addOrder(5);
        x.cancel(2);
        x.addBatch(1);
        x.pickBatch();
        Check.same("in all states", 3, x.orderCount());
    }

    private static void promise11OrderState() {
        PickHall x = stocked();
        Check.same("open", 0, x.orderState(0));
        x.addBatch(1);
        Check.same("batched", 1, x.orderState(0));
        x.pickBatch();
        Check.same("done", 2, x.orderState(0));
        x.cancel(1);
        Check.same("cancelled", 3, x.orderState(1));
        Check.index("order 2", x, () -> x.orderState(2));
        Check.index("order -1", x, () -> x.orderState(-1));
    }

    private static void promise12LineCount() {
        PickHall x = stocked();
        x.addLine(0, 5, 1);
        Check.same("two lines", 2, x.lineCount(0));
        x.cancel(0);
        Check.same("a cancelled order keeps them", 2, x.lineCount(0));
        Check.index("order 2", x, () -> x.lineCount(2));
        Check.index("order -1", x, () -> x.lineCount(-1));
    }

    private static void promise13Due() {
        PickHall x = stocked();
        Check.same("order 0", 100, x.due(0));
        Check.same("order 1", 200, x.due(1));
        Check.index("order 2", x, () -> x.due(2));
        Check.index("order -1", x, () -> x.due(-1));
    }

    private static void promise14SetDue() {
        PickHall x = stocked();
        Check.same("previous", 100, x.setDue(0, 9999));
        Check.same("previous again", 9999, x.setDue(0, 0));
        Check.same("due", 0, x.due(0));
        x.addBatch(1);
        Check.same("batched", 0, x.setDue(0, 7));
        Check.argument("due -1", x, () -> x.setDue(0, -1));
        Check.argument("due 10000", x, () -> x.setDue(0, 10000));
        Check.index("order 2 before due", x, () -> x.setDue(2, -1));
        x.pickBatch();
        Check.state("done", x, () -> x.setDue(0, 5));
        Check.argument("due before done", x, () -> x.setDue(0, 10000));
        x.cancel(1);
        Check.state("cancelled", x, () -> x.setDue(1, 5));
    }

    private static void promise15OrderWeight() {
        PickHall x = stocked();
        x.addLine(0, 4, 3);
        Check.same("2 * 1 + 3 * 5", 17, x.orderWeight(0));
        x.addOrder(1);
        Check.same("no lines", 0, x.orderWeight(2));
        x.addBatch(1);
        x.pickBatch();
        Check.same("done", 17, x.orderWeight(0));
        Check.index("order 3", x, () -> x.orderWeight(3));
        Check.index("order -1", x, () -> x.orderWeight(-1));
    }

    private static void promise16OrderAisles() {
        PickHall x = stocked();
        x.addLine(0, 1, 1);
        x.addLine(0, 4, 1);
        Check.same("aisles 0 and 2", 5, x.orderAisles(0));
        Check.same("aisle 3", 8, x.orderAisles(1));
        x.addOrder(1);
        Check.same("no lines", 0, x.orderAisles(2));
        Check.index("order 3", x, () -> x.orderAisles(3));
        Check.index("order -1", x, () -> x.orderAisles(-1));
    }

    private static void promise17Cancel() {
        PickHall x = stocked();
        x.addOrder(1);
        x.addLine(2, 3, 1);
        x.addOrder(1);
        x.addBatch(1);
        x.addBatch(2 + 4);
        Check.same("one of two", 2, x.cancel(1));
        Check.same("its batch has the other", 4, x.batchOrders(1));
        Check.same("the only one", 1, x.cancel(0));
        Check.same("the next batch is 0 now", 4, x.batchOrders(0));
        Check.same("an open one", 1, x.cancel(3));
        Check.state("cancelled", x, () -> x.cancel(0));
        x.pickBatch();
        Check.state("done", x, () -> x.cancel(2));
        Check.index("order 4", x, () -> x.cancel(4));
        Check.index("order -1", x, () -> x.cancel(-1));
    }
}
