import java.util.Map;
import java.util.TreeMap;

/**
 * What a hall is made of, each fact under a name of its own, so that a test can say which facts a call changes.
 * What no call tells without changing something is asked of a copy.
 */
final class Facts {
    private final Map<String, String> facts = new TreeMap<>();
    private final Run run;

    private Facts(Run run) {
        this.run = run;
    }

    static Map<String, String> of(Run run) {
        Facts all = ofHall(run);
        all.facts.put("text", text(run.copy()));
        all.facts.put("error", run.ask("errorCode") + " at " + run.ask("errorPosition"));
        for (int slot = 0; slot < 2; slot++) {
            Run copy = run.copy();
            boolean saved = !Calls.isRefusal(copy.ask("restore " + slot));
            all.facts.put("slot " + slot, saved ? ofHall(copy).facts.toString() : "nothing");
        }
        return all.facts;
    }

    private static Facts ofHall(Run run) {
        Facts hall = new Facts(run);
        hall.addLayout();
        for (int item = 0; item < run.number("itemCount"); item++) {
            hall.addItem(item);
        }
        for (int order = 0; order < run.number("orderCount"); order++) {
            hall.addOrder(order);
        }
        StringBuilder batches = new StringBuilder();
        for (int batch = 0; batch < run.number("batchCount"); batch++) {
            batches.append(' ').append(run.ask("batchOrders " + batch));
        }
        hall.facts.put("batches", batches.toString());
        return hall;
    }

    private void addLayout() {
        facts.put("aisles", run.ask("aisleCount"));
        StringBuilder zones = new StringBuilder();
        for (int aisle = 0; aisle < run.number("aisleCount"); aisle++) {
            zones.append(' ').append(run.ask("zoneOf " + aisle));
        }
        facts.put("zones", zones.toString());
        Run copy = run.copy();
        facts.put("policy", copy.ask("setPolicy 0"));
        facts.put("times", copy.ask("setTimes 0 1"));
        facts.put("buffer 0", copy.ask("setBuffer 0 1"));
        facts.put("buffer 1", copy.ask("setBuffer 1 1"));
        facts.put("width", width(run.copy()));
        int depth = 0;
        while (depth < 30 && !copy.ask("addItem 0 " + (depth + 1) + " 1 1").equals(Run.INDEX)) {
            depth++;
        }
        facts.put("depth", Integer.toString(depth));
    }

    /** By an order of one line, which lies in the last aisle. */
    private static String width(Run copy) {
        int last = copy.number("aisleCount") - 1;
        copy.ask("setZones -1 -1");
        copy.ask("setPolicy 0");
        String item = copy.ask("addItem " + last + " 1 1 1");
        if (last > 0 && !Calls.isRefusal(item)) {
            int order = emptyOrder(copy);
            copy.ask("addLine " + order + " " + item + " 1");
            return Integer.toString((copy.number("batchRoute " + batchOf(copy, order)) - 2) / (2 * last));
        }
        return last == 0 ? "no width" : widthByOrders(copy);
    }

    /** By an order that is there, if no item can be added: what a depot in its last aisle saves is the way to it. */
    private static String widthByOrders(Run copy) {
        for (int order = 0; order < copy.number("orderCount"); order++) {
            int aisles = copy.number("orderAisles " + order);
            int last = 31 - Integer.numberOfLeadingZeros(aisles);
            if (copy.ask("orderState " + order).equals("0") && last > 0) {
                int before = Math.max(0, 31 - Integer.numberOfLeadingZeros(aisles & ~(1 << last)));
                int batch = batchOf(copy, order);
                int far = copy.number("batchRoute " + batch);
                copy.ask("setZones " + last + " -1");
                return Integer.toString((far - copy.number("batchRoute " + batch)) / (2 * (last - before)));
            }
        }
        return "unseen";
    }

    /** An open order without lines. */
    private static int emptyOrder(Run copy) {
        for (int order = 0; order < copy.number("orderCount"); order++) {
            if (copy.ask("orderState " + order).equals("0") && copy.ask("lineCount " + order).equals("0")) {
                return order;
            }
        }
        return copy.number("addOrder 0");
    }

    private static int batchOf(Run copy, int order) {
        copy.ask("dissolve 7");
        return copy.number("addBatch " + (1 << order));
    }

    private void addItem(int item) {
        Run copy = run.copy();
        int order = emptyOrder(copy);
        copy.ask("addLine " + order + " " + item + " 1");
        int aisle = Integer.numberOfTrailingZeros(copy.number("orderAisles " + order));
        int batch = batchOf(copy, order);
        copy.ask("setZones " + (aisle == 0 ? -1 : aisle) + " -1");
        int length = copy.number("routeLength " + batch + " " + (aisle == 0 ? 0 : 1) + " 0");
        facts.put("item " + item + " place", aisle + " " + length / 2);
        facts.put("item " + item + " weight", copy.ask("orderWeight " + order));
        facts.put("item " + item + " stock", run.ask("stock " + item));
    }

    private void addOrder(int order) {
        String name = "order " + order + " ";
        facts.put(name + "due", run.ask("due " + order));
        facts.put(name + "state", run.ask("orderState " + order));
        facts.put(name + "lines", run.ask("lineCount " + order) + " of the weight " + run.ask("orderWeight " + order)
                + " in the aisles " + run.ask("orderAisles " + order));
        StringBuilder picked = new StringBuilder();
        for (int line = 0; line < run.number("lineCount " + order); line++) {
            String units = run.ask("pickedUnits " + order + " " + line) + "-" + run.ask("shortUnits " + order + " " + line);
            picked.append(units.equals("0-0") ? "" : " " + line + ": " + units);
        }
        facts.put(name + "picked", picked.toString());
        facts.put(name + "again", Calls.isRefusal(run.copy().ask("reorder " + order + " 0")) ? "no" : "yes");
    }

    private static String text(Run copy) {
        int length = 600;
        while (Calls.isRefusal(copy.ask("truncateText " + length))) {
            length--;
        }
        int orders = copy.number("load");
        String error = " error " + copy.ask("errorCode") + " at " + copy.ask("errorPosition");
        return length + " bytes, " + orders + " orders" + error + (orders >= 0 ? copy.look() : "");
    }
}
