/** Scripts for Run: halls that many tests begin with. */
final class Halls {
    static final String NEW = "";

    /**
     * Three zones (aisles 0 and 1, 2 and 3, 4), six items, orders in all states, two batches, an error, a text of
     * 8 bytes and one saved state. Orders: 0 DONE, short, ordered again as 8; 1 DONE; 2 DONE and short;
     * 3 and 4 in batch 0; 5 in batch 1; 6 OPEN without lines; 7 CANCELLED; 8 OPEN.
     */
    static final String BUSY = """
            setLayout 5 10 2
            setZones 2 4
            addItem 0 3 2 5
            addItem 1 10 3 0
            addItem 2 1 50 999
            addItem 3 7 1 20
            addItem 4 10 4 9
            addItem 4 10 1 3
            addOrder 20
            addLine 0 0 7
            addLine 0 1 2
            addOrder 0
            addLine 1 2 3
            addOrder 50
            addLine 2 1 4
            addOrder 30
            addLine 3 3 2
            addLine 3 4 1
            addOrder 10
            addLine 4 2 9
            addLine 4 5 1
            addOrder 9999
            addLine 5 0 99
            addOrder 5
            addOrder 6
            addLine 7 4 2
            addBatch 7
            addBatch 24
            save 0
            addBatch 32
            pickBatch
            reorder 0 40
            cancel 7
            setPolicy 2
            setTimes 7 3
            setBuffer 0 0
            setBuffer 1 2
            text hall 9
            load
            text hall 1 2
            """;

    /**
     * 6 aisles of depth 20 and width 9, 24 items, 16 orders, 8 batches, 600 bytes of text, both slots saved.
     * Orders: 0 to 7 in a batch each; 8 DONE, short, not ordered again; 9 OPEN with 6 lines; 10 OPEN with a line;
     * 11 OPEN without lines; 12 to 15 OPEN with 6 lines.
     */
    static final String FULL = full();

    private Halls() {
    }

    private static String full() {
        StringBuilder script = new StringBuilder("setLayout 6 20 9\nsetZones 2 5\n");
        for (int item = 0; item < 24; item++) {
            script.append("addItem " + item % 6 + " " + (20 - item / 2) + " 50 " + (item == 0 ? 0 : 999) + "\n");
        }
        for (int order = 0; order < 16; order++) {
            script.append("addOrder " + (9999 - order) + "\n");
            int lines = order == 10 ? 1 : order == 11 ? 0 : 6;
            for (int line = 0; line < lines; line++) {
                script.append("addLine " + order + " " + (order == 8 ? line : (order + 4 * line) % 24) + " 99\n");
            }
        }
        script.append("addBatch 256\nsave 0\npickBatch\n");
        for (int order = 0; order < 8; order++) {
            script.append("addBatch " + (1 << order) + "\n");
        }
        script.append("setPolicy 3\nsetTimes 99 99\nsetBuffer 0 4\nsetBuffer 1 0\nsave 1\n");
        script.append("text hall 2 3 4;order 5;" + ";".repeat(581) + "\n");
        return script.toString();
    }
}
