/** Promises 1 to 7: a new object, the layout and the items. */
public final class HallTest {
    public static void main(String[] args) {
        promise01NewObject();
        promise02SetLayout();
        promise03AisleCount();
        promise04AddItem();
        promise05ItemCount();
        promise06Stock();
        promise07Restock();
        Check.end("HallTest");
    }

    private static void promise01NewObject() {
        PickHall x = new PickHall();
        Check.same("NONE", -1, PickHall.NONE);
        Check.same("aisles", 4, x.aisleCount());
        Check.same("items", 0, x.itemCount());
        Check.same("orders", 0, x.orderCount());
        Check.same("batches", 0, x.batchCount());
        Check.same("one zone", 0, x.zoneOf(3));
        Check.index("second zone", x, () -> x.blockedTime(1));
        Check.argument("the text is empty", x, () -> x.truncateText(1));
        Check.same("error code", 0, x.errorCode());
        Check.same("error position", -1, x.errorPosition());
        Check.state("slot 0", x, Check.of(() -> x.restore(0)));
        Check.state("slot 1", x, Check.of(() -> x.restore(1)));
        Check.same("policy", 0, x.setPolicy(0));
        Check.same("times", 1, x.setTimes(0, 1));
        Check.same("buffer 0", 1, x.setBuffer(0, 1));
        Check.same("buffer 1", 1, x.setBuffer(1, 1));
        // Depth 10 and width 2: place 10 exists and 11 does not; two aisles to the right are 4 away.
        Check.same("place 10", 0, x.addItem(2, 10, 1, 1));
        Check.index("place 11", x, () -> x.addItem(2, 11, 1, 1));
        x.addOrder(0);
        x.addLine(0, 0, 1);
        x.addBatch(1);
        Check.same("route", 8 + 20, x.batchRoute(0));
    }

    private static void promise02SetLayout() {
        PickHall x = new PickHall();
        Check.same("largest", 120, x.setLayout(6, 20, 9));
        Check.same("smallest", 2, x.setLayout(1, 2, 1));
        Check.argument("0 aisles", x, () -> x.setLayout(0, 5, 1));
        Check.argument("7 aisles", x, () -> x.setLayout(7, 5, 1));
        Check.argument("depth 1", x, () -> x.setLayout(2, 1, 1));
        Check.argument("depth 21", x, () -> x.setLayout(2, 21, 1));
        Check.argument("width 0", x, () -> x.setLayout(2, 5, 0));
        Check.argument("width 10", x, () -> x.setLayout(2, 5, 10));
        x.setLayout(5, 4, 3);
        x.setZones(1, 2);
        x.setPolicy(2);
        x.setBuffer(1, 4);
        x.setTimes(7, 8);
        x.addOrder(5);
        Check.same("layout again", 12, x.setLayout(3, 4, 3));
        Check.same("one zone then", 0, x.zoneOf(2));
        Check.same("the policy stays", 2, x.setPolicy(0));
        Check.same("the buffer stays", 4, x.setBuffer(1, 1));
        Check.same("the times stay", 708, x.setTimes(0, 1));
        Check.same("the order stays", 1, x.orderCount());
        x.addItem(0, 4, 1, 1);
        Check.state("with an item", x, () -> x.setLayout(3, 4, 3));
        Check.argument("with an item and out of range", x, () -> x.setLayout(3, 4, 0));
    }

    private static void promise03AisleCount() {
        PickHall x = new PickHall();
        x.setLayout(6, 2, 1);
        Check.same("six", 6, x.aisleCount());
        x.setLayout(1, 2, 1);
        Check.same("one", 1, x.aisleCount());
    }

    private static void promise04AddItem() {
        PickHall x = new PickHall();
        x.setLayout(2, 5, 1);
        Check.index("aisle -1", x, () -> x.addItem(-1, 1, 1, 1));
        Check.index("aisle 2", x, () -> x.addItem(2, 1, 1, 1));
        Check.index("place 0", x, () -> x.addItem(0, 0, 1, 1));
        Check.index("place 6", x, () -> x.addItem(0, 6, 1, 1));
        Check.index("least place", x, () -> x.addItem(0, Integer.MIN_VALUE, 1, 1));
        Check.index("place before weight", x, () -> x.addItem(0, 6, 0, 1000));
        Check.argument("weight 0", x, () -> x.addItem(0, 1, 0, 1));
        Check.argument("weight 51", x, () -> x.addItem(0, 1, 51, 1));
        Check.argument("stock -1", x, () -> x.addItem(0, 1, 1, -1));
        Check.argument("stock 1000", x, () -> x.addItem(0, 1, 1, 1000));
        for (int k = 0; k < 24; k++) {
            Check.same("item", k, x.addItem(k % 2, 1 + k % 5, k % 2 == 0 ? 1 : 50, k % 2 == 0 ? 0 : 999));
        }
        Check.state("item 24", x, () -> x.addItem(0, 1, 1, 1));
        Check.argument("weight before the number of items", x, () -> x.addItem(0, 1, 51, 1));
        Check.index("aisle before the number of items", x, () -> x.addItem(2, 1, 51, 1));
    }

    private static void promise05ItemCount() {
        PickHall x = new PickHall();
        x.addItem(0, 1, 1, 1);
        x.addItem(0, 1, 1, 1);
        Check.same("two at one place", 2, x.itemCount());
    }

    private static void promise06Stock() {
        PickHall x = new PickHall();
        x.addItem(0, 1, 1, 0);
        x.addItem(1, 1, 1, 999);
        Check.same("stock 0", 0, x.stock(0));
        Check.same("stock 1", 999, x.stock(1));
        Check.index("item 2", x, () -> x.stock(2));
        Check.index("item -1", x, () -> x.stock(-1));
    }

    private static void promise07Restock() {
        PickHall x = new PickHall();
        x.addItem(0, 1, 1, 0);
        Check.same("one unit", 1, x.restock(0, 1));
        Check.same("up to 999", 999, x.restock(0, 998));
        Check.argument("one more", x, () -> x.restock(0, 1));
        x.addItem(0, 1, 1, 0);
        Check.argument("no unit", x, () -> x.restock(1, 0));
        Check.argument("less than none", x, () -> x.restock(1, -5));
        Check.argument("1000 units", x, () -> x.restock(1, 1000));
        Check.argument("the most", x, () -> x.restock(0, Integer.MAX_VALUE));
        Check.index("item 2", x, () -> x.restock(2, 0));
        Check.same("all units", 999, x.restock(1, 999));
        Check.same("stock then", 999, x.stock(1));
    }
}
