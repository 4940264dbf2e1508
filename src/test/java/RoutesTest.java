/** Promises 26 to 36: policies, zones, buffers, times and routes. */
public final class RoutesTest {
    public static void main(String[] args) {
        promise26SetPolicy();
        promise27SetZones();
        promise28ZoneOf();
        promise29SetBuffer();
        promise30SetTimes();
        promise31RouteLength();
        promise31SkippedAisles();
        promise32BatchRoute();
        promise33BestPolicy();
        promise34StopCount();
        promise35StopItem();
        promise35Gaps();
        promise35Combined();
        promise36SavedDistance();
        Check.end("RoutesTest");
    }

    /** Aisle 0: places 3, 8. Aisle 1: places 2, 9. Aisle 2: places 5, 6. Aisle 3: place 4 twice. */
    private static PickHall fourAisles() {
        PickHall x = Texts.hall("hall 4 10 2; item 0 3 1 9; item 0 8 1 9; item 1 2 1 9; item 1 9 1 9;"
                + "item 2 5 1 9; item 2 6 1 9; item 3 4 1 9; item 3 4 1 9;"
                + "order 1 line 0 1 line 1 1 line 2 1 line 3 1 line 4 1 line 5 1; order 1 line 7 1 line 6 1 line 0 1;");
        x.addBatch(3);
        return x;
    }

    /** The stops in a zone by a policy. */
    private static void stops(String what, PickHall x, int zone, int policy, int... due) {
        x.setPolicy(policy);
        Check.same(what + ": number of stops", due.length, x.stopCount(0, zone));
        for (int k = 0; k < due.length; k++) {
            int stop = k;
            Check.same(what + ": stop " + k, Integer.toString(due[k]),
                    Check.outcome(() -> x.stopItem(0, zone, stop)));
        }
        Check.index(what + ": behind the last stop", x, () -> x.stopItem(0, zone, due.length));
    }

    private static void lengths(String what, PickHall x, int zone, int... due) {
        for (int policy = 0; policy < 4; policy++) {
            Check.same(what + " by policy " + policy, due[policy], x.routeLength(0, zone, policy));
        }
    }

    private static void promise26SetPolicy() {
        PickHall x = new PickHall();
        for (int policy = 0; policy < 4; policy++) {
            Check.same("previous", Math.max(0, policy - 1), x.setPolicy(policy));
        }
        Check.argument("policy -1", x, () -> x.setPolicy(-1));
        Check.argument("policy 4", x, () -> x.setPolicy(4));
        Check.same("stays", 3, x.setPolicy(0));
    }

    private static void promise27SetZones() {
        PickHall x = new PickHall();
        Check.same("two", 2, x.setZones(3, -1));
        Check.same("three", 3, x.setZones(2, 3));
        Check.argument("second 0", x, () -> x.setZones(0, -1));
        Check.argument("second 4", x, () -> x.setZones(4, -1));
        Check.argument("second -2", x, () -> x.setZones(-2, -1));
        Check.argument("third 4", x, () -> x.setZones(1, 4));
        Check.argument("third -2", x, () -> x.setZones(1, -2));
        Check.argument("third equal", x, () -> x.setZones(2, 2));
        Check.argument("third less", x, () -> x.setZones(2, 1));
        Check.argument("third without second", x, () -> x.setZones(-1, 2));
        Check.argument("third 0 without second", x, () -> x.setZones(-1, 0));
        Check.same("one", 1, x.setZones(-1, -1));
        Check.same("one zone", 0, x.zoneOf(3));
        x.setLayout(1, 2, 1);
        Check.argument("one aisle", x, () -> x.setZones(1, -1));
        Check.same("one aisle, one zone", 1, x.setZones(-1, -1));
    }

    private static void promise28ZoneOf() {
        PickHall x = new PickHall();
        x.setLayout(6, 2, 1);
        x.setZones(1, 4);
        int[] due = {0, 1, 1, 1, 2, 2};
        for (int aisle = 0; aisle < 6; aisle++) {
            Check.same("aisle " + aisle, due[aisle], x.zoneOf(aisle));
        }
        Check.index("aisle 6", x, () -> x.zoneOf(6));
        Check.index("aisle -1", x, () -> x.zoneOf(-1));
        x.setZones(5, -1);
        Check.same("two zones", 0, x.zoneOf(4));
        Check.same("two zones", 1, x.zoneOf(5));
    }

    private static void promise29SetBuffer() {
        PickHall x = new PickHall();
        Check.same("buffer 0", 1, x.setBuffer(0, 4));
        Check.same("buffer 1", 1, x.setBuffer(1, 0));
        Check.same("buffer 0 again", 4, x.setBuffer(0, 2));
        Check.same("buffer 1 again", 0, x.setBuffer(1, 3));
        Check.index("buffer -1", x, () -> x.setBuffer(-1, 1));
        Check.index("buffer 2 before capacity", x, () -> x.setBuffer(2, 5));
        Check.argument("capacity -1", x, () -> x.setBuffer(0, -1));
        Check.argument("capacity 5", x, () -> x.setBuffer(0, 5));
        Check.same("stays", 2, x.setBuffer(0, 1));
    }

    private static void promise30SetTimes() {
        PickHall x = new PickHall();
        Check.same("at first", 1, x.setTimes(99, 7));
        Check.same("previous", 9907, x.setTimes(0, 99));
        Check.argument("setup -1", x, () -> x.setTimes(-1, 1));
        Check.argument("setup 100", x, () -> x.setTimes(100, 1));
        Check.argument("per item -1", x, () -> x.setTimes(1, -1));
        Check.argument("per item 100", x, () -> x.setTimes(1, 100));
        Check.same("stays", 99, x.setTimes(0, 1));
    }

    private static void promise31RouteLength() {
        PickHall x = fourAisles();
        // RETURN 12 + 16 + 18 + 12 + 8. S-SHAPE 12 + 44. GAP 12 + 22 + 2 * 4 + 2 * 6. COMBINED 12 + 22 + 12 + 8.
        lengths("four aisles", x, 0, 66, 56, 54, 54);
        x.setZones(1, -1);
        lengths("zone 0", x, 0, 16, 16, 16, 16);
        // 8 + 18 + 12 + 8; 8 + 22 + 8; 8 + 22 + 2 * 6; 8 + 22 + 8.
        lengths("zone 1", x, 1, 46, 38, 42, 38);
        Check.index("batch 1", x, () -> x.routeLength(1, 0, 0));
        Check.index("batch -1", x, () -> x.routeLength(-1, 0, 0));
        Check.index("zone 2 before policy", x, () -> x.routeLength(0, 2, 4));
        Check.index("zone -1", x, () -> x.routeLength(0, -1, 0));
        Check.argument("policy 4", x, () -> x.routeLength(0, 0, 4));
        Check.argument("policy -1", x, () -> x.routeLength(0, 0, -1));
    }

    private static void promise31SkippedAisles() {
        PickHall x = Texts.hall("hall 6 4 3; item 1 4 1 9; item 3 4 1 9; order 1 line 0 1 line 1 1; zones 2 4;");
        x.addBatch(1);
        lengths("one aisle that is not the first", x, 0, 6 + 8, 6 + 8, 6 + 8, 6 + 8);
        lengths("second zone", x, 1, 6 + 8, 6 + 8, 6 + 8, 6 + 8);
        lengths("nothing in the third zone", x, 2, 0, 0, 0, 0);
        x.setZones(-1, -1);
        lengths("both", x, 0, 18 + 16, 18 + 10, 18 + 10, 18 + 10);
    }

    private static void promise32BatchRoute() {
        PickHall x = fourAisles();
        x.setPolicy(1);
        Check.same("one zone", 56, x.batchRoute(0));
        x.setZones(1, -1);
        Check.same("two zones", 16 + 38, x.batchRoute(0));
        x.setPolicy(2);
        Check.same("by the policy in force", 16 + 42, x.batchRoute(0));
        Check.index("batch 1", x, () -> x.batchRoute(1));
        Check.index("batch -1", x, () -> x.batchRoute(-1));
    }

    private static void promise33BestPolicy() {
        PickHall x = fourAisles();
        Check.same("2 and 3 are shortest", 2, x.bestPolicy(0));
        x.setZones(1, -1);
        Check.same("1 and 3 are shortest", 1, x.bestPolicy(0));
        Check.index("batch 1", x, () -> x.bestPolicy(1));
        Check.index("batch -1", x, () -> x.bestPolicy(-1));
        PickHall y = Texts.hall("hall 4 10 2; item 0 10 1 9; item 1 1 1 9; item 1 10 1 9; item 2 1 1 9; item 3 1 1 9;"
                + "order 1 line 0 1 line 1 1 line 2 1 line 3 1 line 4 1;");
        y.addBatch(1);
        lengths("two crossed, two not", y, 0, 12 + 44, 12 + 44, 12 + 22 + 4 + 2, 12 + 22 + 4);
        Check.same("combined is shortest", 3, y.bestPolicy(0));
        y.setPolicy(1);
        Check.same("whatever is in force", 3, y.bestPolicy(0));
    }

    private static void promise34StopCount() {
        PickHall x = fourAisles();
        Check.same("each item once", 8, x.stopCount(0, 0));
        x.setZones(2, 3);
        Check.same("zone 0", 4, x.stopCount(0, 0));
        Check.same("zone 1", 2, x.stopCount(0, 1));
        Check.same("zone 2", 2, x.stopCount(0, 2));
        Check.index("zone 3", x, () -> x.stopCount(0, 3));
        Check.index("zone -1", x, () -> x.stopCount(0, -1));
        Check.index("batch 1", x, () -> x.stopCount(1, 0));
        Check.index("batch -1", x, () -> x.stopCount(-1, 0));
    }

    private static void promise35StopItem() {
        PickHall x = fourAisles();
        stops("return", x, 0, 0, 0, 1, 2, 3, 4, 5, 6, 7);
        stops("s-shape", x, 0, 1, 0, 1, 3, 2, 4, 5, 6, 7);
        stops("gap", x, 0, 2, 0, 1, 3, 5, 4, 6, 7, 2);
        stops("combined", x, 0, 3, 0, 1, 3, 2, 4, 5, 6, 7);
        x.setZones(1, -1);
        stops("s-shape, three aisles", x, 1, 1, 2, 3, 5, 4, 6, 7);
        stops("gap with one aisle", x, 0, 2, 0, 1);
        Check.index("stop -1", x, () -> x.stopItem(0, 0, -1));
        Check.index("zone 2", x, () -> x.stopItem(0, 2, 0));
        Check.index("zone -1", x, () -> x.stopItem(0, -1, 0));
        Check.index("batch 1", x, () -> x.stopItem(1, 0, 0));
        Check.index("batch -1", x, () -> x.stopItem(-1, 0, 0));
    }

    private static void promise35Gaps() {
        // Aisle 1: gaps 4, 3, 4. Aisle 2: gaps 1, 1, 9. Aisle 3: gaps 3, 5, 3. The end aisles have two places each.
        PickHall x = Texts.hall("hall 5 10 1; item 0 5 1 9; item 0 2 1 9; item 1 4 1 9; item 1 7 1 9;"
                + "item 2 1 1 9; item 2 2 1 9; item 3 3 1 9; item 3 8 1 9; item 4 5 1 9; item 4 6 1 9;"
                + "order 1 line 0 1 line 1 1 line 2 1 line 3 1 line 4 1;"
                + "order 1 line 5 1 line 6 1 line 7 1 line 8 1 line 9 1;");
        x.addBatch(3);
        Check.same("gap", 8 + 22 + 2 * 7 + 2 * 2 + 2 * 6, x.routeLength(0, 0, 2));
        stops("gap", x, 0, 2, 1, 0, 3, 2, 7, 9, 8, 6, 4, 5);

        PickHall y = Texts.hall("hall 3 2 1; item 0 1 1 9; item 1 1 1 9; item 1 2 1 9; item 2 1 1 9; item 2 2 1 9;"
                + "order 1 line 0 1 line 1 1 line 2 1 line 3 1 line 4 1; zones 1;");
        y.addBatch(1);
        Check.same("two aisles are both traversed", 2 + 6, y.routeLength(0, 1, 2));
        stops("two aisles are both traversed", y, 1, 2, 1, 2, 4, 3);
        y.setZones(-1, -1);
        // Three gaps of 1 in aisle 1: the one at the front end is left out.
        Check.same("gaps of 1", 4 + 6 + 4, y.routeLength(0, 0, 2));
        stops("gaps of 1", y, 0, 2, 0, 2, 1, 4, 3);
    }

    private static void promise35Combined() {
        // Aisle 1 is entered and left at its back end.
        PickHall x = Texts.hall("hall 3 10 2; item 0 10 1 9; item 1 9 1 9; item 1 10 1 9; item 2 10 1 9; item 2 1 1 9;"
                + "order 1 line 0 1 line 1 1 line 2 1 line 3 1 line 4 1;");
        x.addBatch(1);
        lengths("from the back", x, 0, 8 + 60, 8 + 22 + 20, 8 + 22 + 4, 8 + 22 + 4);
        stops("from the back", x, 0, 3, 0, 2, 1, 3, 4);

        PickHall y = Texts.hall("hall 2 4 1; item 0 2 1 9; item 1 1 1 9; item 1 3 1 9;"
                + "order 1 line 0 1 line 1 1 line 2 1;");
        y.addBatch(1);
        Check.same("crossing costs as much", 2 + 10, y.routeLength(0, 0, 3));
        stops("not traversing comes first", y, 0, 3, 0, 1, 2);
    }

    private static void promise36SavedDistance() {
        PickHall x = fourAisles();
        // Order 0 alone 8 + 16 + 18 + 12, order 1 alone 12 + 6 + 8, together 66.
        Check.same("return", 54 + 26 - 66, x.savedDistance());
        x.setPolicy(1);
        // Order 0 alone 8 + 22 + 12, order 1 alone 12 + 22, together 56.
        Check.same("s-shape", 42 + 34 - 56, x.savedDistance());
        x.dissolve(0);
        Check.same("without batches", 0, x.savedDistance());
        x.addBatch(1);
        x.addBatch(2);
        Check.same("single orders", 0, x.savedDistance());
    }
}
