/** Promises 58 and 59: saved states. */
public final class SavedStatesTest {
    public static void main(String[] args) {
        promise58Save();
        promise58KeepsAll();
        promise58FullHall();
        promise59Restore();
        promise59LeavesTextAndError();
        Check.end("SavedStatesTest");
    }

    private static PickHall busy() {
        PickHall x = Texts.hall("hall 3 10 2; item 0 5 2 3; item 1 7 3 9; item 2 2 1 9;"
                + "order 5 line 0 5 line 1 1; order 6 line 1 2 line 2 1; order 7 line 2 1; order 8 line 0 1;"
                + "zones 1 2; policy gap; times 3 4; buffer 0 3; buffer 1 2;");
        x.addBatch(1);
        x.addBatch(6);
        x.pickBatch();
        x.reorder(0, 9);
        return x;
    }

    private static void promise58Save() {
        PickHall x = busy();
        Check.argument("slot -1", x, Check.of(() -> x.save(-1)));
        Check.argument("slot 2", x, Check.of(() -> x.save(2)));
        Check.state("nothing was saved", x, Check.of(() -> x.restore(0)));
        String first = Snapshot.of(x);
        x.save(0);
        Check.same("saving changes nothing", first, Snapshot.of(x));
        x.cancel(3);
        String second = Snapshot.of(x);
        x.save(1);
        x.pickBatch();
        x.restore(0);
        Check.same("slot 0", first, Snapshot.of(x));
        x.restore(1);
        Check.same("slot 1", second, Snapshot.of(x));
        x.pickBatch();
        String third = Snapshot.of(x);
        x.save(0);
        x.restore(1);
        x.restore(0);
        Check.same("slot 0 is replaced", third, Snapshot.of(x));
    }

    private static void promise58KeepsAll() {
        PickHall x = busy();
        String before = Snapshot.of(x);
        x.save(1);
        Texts.load(x, "hall 6 20 9; item 5 20 50 999; order 0 line 0 99;");
        x.addBatch(1);
        x.pickBatch();
        x.restore(1);
        Check.same("all that can be seen", before, Snapshot.of(x));
        Check.same("policy", 2, x.setPolicy(0));
        Check.same("times", 304, x.setTimes(0, 1));
        Check.same("buffer 0", 3, x.setBuffer(0, 0));
        Check.same("buffer 1", 2, x.setBuffer(1, 0));
        Check.state("order 0 was ordered again", x, () -> x.reorder(0, 1));
        Check.same("depth", 3, x.addItem(2, 10, 1, 1));
        Check.index("depth", x, () -> x.addItem(2, 11, 1, 1));
    }

    /** As many items, orders and lines as there can be; the last order is picked, the others are batched. */
    private static void fill(PickHall x, int least) {
        for (int item = 0; item < 24; item++) {
            x.addItem(item % x.aisleCount(), 1 + item % 2, least + item, 90 + item);
        }
        for (int order = 0; order < 16; order++) {
            x.addOrder(least + order);
            for (int line = 0; line < 6; line++) {
                x.addLine(order, (order + line + least) % 24, least + order + line);
            }
        }
        x.addBatch(1 << 15);
        int units = 6 * (least + 15) + 15;
        Check.same("units", units, x.pickBatch());
        x.makeBatches(2, 99999, 1);
    }

    private static void promise58FullHall() {
        PickHall x = new PickHall();
        fill(x, 10);
        String before = Snapshot.of(x);
        x.save(0);
        Texts.load(x, "hall 6 2 1;");
        fill(x, 3);
        x.restore(0);
        Check.same("all of it", before, Snapshot.of(x));
        Check.same("picked in the last line", 30, x.pickedUnits(15, 5));
        Check.same("nothing is short in it", 0, x.shortUnits(15, 5));
    }

    private static void promise59Restore() {
        PickHall x = busy();
        x.save(0);
        String before = Snapshot.of(x);
        Check.argument("slot -1", x, Check.of(() -> x.restore(-1)));
        Check.argument("slot 2", x, Check.of(() -> x.restore(2)));
        Check.state("slot 1 is empty", x, Check.of(() -> x.restore(1)));
        for (int k = 0; k < 2; k++) {
            x.restock(0, 5);
            x.setDue(1, 77);
            x.dissolve(0);
            x.makeBatches(1, 99, 1);
            x.pickBatch();
            x.setZones(-1, -1);
            x.restore(0);
            Check.same("it stays saved", before, Snapshot.of(x));
        }
        Check.state("order 0 was ordered again", x, () -> x.reorder(0, 1));
        PickHall y = busy();
        y.restore(busyAndSaved(y));
        Check.same("a state before ordering again", 4, y.orderCount());
        Check.same("can be ordered again", 4, y.reorder(0, 1));
    }

    /** Loads the hall of busy() anew, saves it before anything is ordered again, and answers the slot. */
    private static int busyAndSaved(PickHall y) {
        Texts.load(y, "hall 1 9 1; item 0 1 1 1; order 1 line 0 2; order 1; order 1; order 1;");
        y.addBatch(1);
        y.pickBatch();
        y.save(1);
        y.reorder(0, 2);
        return 1;
    }

    private static void promise59LeavesTextAndError() {
        PickHall x = new PickHall();
        x.save(0);
        Texts.load(x, "hall 9");
        Texts.put(x, "hall 2 3 4;");
        x.restore(0);
        Check.same("code", 2, x.errorCode());
        Check.same("position", 5, x.errorPosition());
        Check.same("the text", 0, x.load());
        Check.same("aisles", 2, x.aisleCount());
        Check.same("code", 0, x.errorCode());
        x.restore(0);
        Check.same("aisles", 4, x.aisleCount());
        Check.same("the old error does not come back", 0, x.errorCode());
        Check.argument("nor does the text", x, () -> x.truncateText(1));
    }
}
