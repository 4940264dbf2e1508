/** All that any call can tell about a hall, also what is seen only by changing it: it is of no use afterwards. */
final class Probe {
    private Probe() {
    }

    static String of(PickHall x) {
        StringBuilder text = new StringBuilder();
        addHall(text, x);
        int length = 600;
        while (Calls.isRefusal(Calls.answer(x, "truncateText " + length))) {
            length--;
        }
        text.append("\ntext of ").append(length);
        text.append(" bytes: ").append(x.load()).append(' ').append(x.errorCode()).append(' ').append(x.errorPosition());
        addHall(text, x);
        for (int slot = 0; slot < 2; slot++) {
            text.append("\nslot ").append(slot).append(": ").append(Calls.answer(x, "restore " + slot));
            addHall(text, x);
        }
        return text.toString();
    }

    private static void addHall(StringBuilder text, PickHall x) {
        text.append('\n').append(Snapshot.of(x));
        text.append("\nsettings ").append(x.setPolicy(0)).append(' ').append(x.setTimes(0, 1));
        text.append(' ').append(x.setBuffer(0, 1)).append(' ').append(x.setBuffer(1, 1));
        text.append("\nordered again");
        for (int order = x.orderCount() - 1; order >= 0; order--) {
            text.append(' ').append(Calls.answer(x, "reorder " + order + " 0"));
        }
        text.append("\nplaces");
        for (int place = 2; place <= 21; place++) {
            text.append(' ').append(Calls.answer(x, "addItem 0 " + place + " 1 1"));
        }
        text.append("\nall items");
        for (int item = 0; item < x.itemCount(); item++) {
            addItem(text, x, item);
        }
        text.append('\n').append(Snapshot.of(x));
    }

    /** As a batch of its own, so that its place and its weight are seen, and the width of the hall with them. */
    private static void addItem(StringBuilder text, PickHall x, int item) {
        if (x.orderCount() < 16 && x.batchCount() < 8) {
            int order = x.addOrder(0);
            x.addLine(order, item, 1);
            int batch = x.addBatch(1 << order);
            text.append(' ').append(x.orderAisles(order)).append(' ').append(x.batchWeight(batch));
            text.append(' ').append(x.batchRoute(batch));
            x.dissolve(batch);
        }
    }
}
