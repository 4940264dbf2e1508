/** The sentences about the policies, zones, buffers, times and routes: promises 26 to 36. */
final class RouteSentences {
    private static final String SECTION = "ZONES AND ROUTES";

    private RouteSentences() {
    }

    static void run() {
        zones();
        returnAndSShape();
        largestGap();
        combined();
        stops();
        promise26();
        promise27();
        promise27Refused();
        promise28To30();
        promise31();
        promise32And33();
        promise34And35();
        promise36();
        settingsPlain();
        routesPlain();
        whichBatchAndZone();
    }

    /** A batch with an item at each place "aisle place, aisle place, .."; the layout comes first. */
    private static Run batch(String layout, String places) {
        Run x = Run.of("setLayout " + layout);
        String[] items = places.split(",");
        for (int item = 0; item < items.length; item++) {
            x.then("addItem " + items[item].trim() + " 1 9");
            if (item % 6 == 0) {
                x.then("addOrder 0");
            }
            x.then("addLine " + item / 6 + " " + item + " 1");
        }
        return x.then("addBatch " + ((1 << (items.length + 5) / 6) - 1));
    }

    private static void zones() {
        Sentences.test(SECTION, "The hall is divided into 1 to 3 zones (one at first), numbered from 0");
        Run.of("setLayout 6 2 1").are("zoneOf #", 0, 0, 0, 0, 0, 0).refuses("blockedTime 1", Run.INDEX)
                .then("setZones 1 -1").are("zoneOf #", 0, 1, 1, 1, 1, 1).refuses("blockedTime 2", Run.INDEX)
                .then("setZones 1 2").are("zoneOf #", 0, 1, 2, 2, 2, 2).refuses("blockedTime 3", Run.INDEX)
                .then("setZones 4 5").are("zoneOf #", 0, 0, 0, 0, 1, 2);
        Sentences.test(SECTION, "The depot of a zone is the front end of its first aisle.");
        // The last aisle is 5 aisles from the depot of one zone, 4 from that of zone 1, and 0 from that of zone 2.
        Run last = batch("6 2 9", "5 1").lengths(0, 0, 92, 92, 92, 92);
        last.then("setZones 1 -1").lengths(0, 1, 74, 74, 74, 74).lengths(0, 0, 0, 0, 0, 0);
        last.then("setZones 4 5").lengths(0, 2, 2, 2, 2, 2).lengths(0, 1, 0, 0, 0, 0);
        Sentences.test(SECTION, "The route of a batch in a zone begins and ends at the depot of the zone and visits all");
        batch("2 20 1", "0 1, 0 20, 1 1, 1 20").lengths(0, 0, 82, 44, 44, 44).stops(0, 0, 0, 1, 2, 3)
                .then("setZones 1 -1").stops(0, 0, 0, 1).stops(0, 1, 2, 3).lengths(0, 1, 40, 40, 40, 40);
        Sentences.test(SECTION, "If there are none, the route has the length 0 and no stops.");
        Run none = batch("3 20 9", "1 20").then("setZones 1 2");
        for (int policy = 0; policy < 4; policy++) {
            none.then("setPolicy " + policy).lengths(0, 0, 0, 0, 0, 0).lengths(0, 2, 0, 0, 0, 0).stops(0, 0).stops(0, 2)
                    .stops(0, 1, 0).is("batchRoute 0", 40);
        }
        Sentences.test(SECTION, "The aisles of the route are the aisles with such places, from left to right.");
        batch("6 4 1", "4 4, 1 4, 3 1").lengths(0, 0, 8 + 18, 8 + 10 + 8, 8 + 10 + 2, 8 + 18);
        Sentences.test(SECTION, "The walk of the route is twice the distance from the depot to the front end of the last");
        batch("6 20 9", "0 1, 5 1").lengths(0, 0, 90 + 4, 90 + 42, 90 + 42, 90 + 4);
        batch("1 2 9", "0 1").lengths(0, 0, 2, 2, 2, 2);
    }

    private static void returnAndSShape() {
        Sentences.test(SECTION, "There are four policies:");
        Run.of(Halls.BUSY).range("setPolicy #", 0, 3, Run.ARGUMENT).range("routeLength 0 0 #", 0, 3, Run.ARGUMENT);
        Sentences.test(SECTION, "0 RETURN Every aisle of the route is entered and left at its front end");
        batch("2 20 1", "0 20, 0 1, 1 20").is("routeLength 0 0 0", 2 + 80).then("setPolicy 0").stops(0, 0, 1, 0, 2);
        Sentences.test(SECTION, "The length is the walk plus twice the highest place of each aisle.");
        batch("6 20 9", "0 20, 1 20, 2 20, 3 20, 4 20, 5 20, 5 1").is("routeLength 0 0 0", 90 + 6 * 40);
        batch("1 2 1", "0 1").is("routeLength 0 0 0", 2);
        Sentences.test(SECTION, "1 S-SHAPE The aisles are traversed from left to right, the first one from front");
        batch("2 2 1", "0 2, 0 1, 1 1, 1 2").then("setPolicy 1").stops(0, 0, 1, 0, 3, 2).is("routeLength 0 0 1", 8);
        Sentences.test(SECTION, "If their number is odd, the last aisle is not traversed, but entered and left at the front");
        batch("3 2 1", "0 1, 1 1, 2 2, 2 1").then("setPolicy 1").stops(0, 0, 0, 1, 3, 2).is("routeLength 0 0 1", 4 + 6 + 4);
        batch("1 20 1", "0 2, 0 1").then("setPolicy 1").stops(0, 0, 1, 0).is("routeLength 0 0 1", 4);
        Sentences.test(SECTION, "The length is the walk plus depth + 1 for each traversed aisle, plus twice");
        batch("6 20 9", "0 1, 1 1, 2 1, 3 1, 4 1, 5 1").is("routeLength 0 0 1", 90 + 6 * 21);
        batch("6 20 9", "0 1, 1 1, 2 1, 3 1, 4 20").is("routeLength 0 0 1", 72 + 4 * 21 + 40);
        batch("1 20 9", "0 20").is("routeLength 0 0 1", 40);
    }

    private static void largestGap() {
        Sentences.test(SECTION, "2 LARGEST GAP With one aisle, as RETURN.");
        batch("6 20 9", "5 20, 5 1").then("setPolicy 2").is("routeLength 0 0 2", 90 + 40).stops(0, 0, 1, 0);
        Sentences.test(SECTION, "Otherwise the first aisle is traversed from front to back, and the last one from back");
        batch("2 20 1", "0 1, 0 2, 1 1, 1 2").then("setPolicy 2").is("routeLength 0 0 2", 2 + 42).stops(0, 0, 0, 1, 3, 2);
        Sentences.test(SECTION, "For each aisle between them, the gaps are the distances from the front end");
        // Places at both ends of aisle 1: the gaps are 1, 19 and 1. A place alone in aisle 1: p and 21 - p.
        batch("3 20 1", "0 1, 1 1, 1 20, 2 1").is("routeLength 0 0 2", 4 + 42 + 4);
        batch("3 20 1", "0 1, 1 1, 2 1").is("routeLength 0 0 2", 4 + 42 + 2);
        batch("3 20 1", "0 1, 1 20, 2 1").is("routeLength 0 0 2", 4 + 42 + 2);
        batch("3 20 1", "0 1, 1 10, 2 1").is("routeLength 0 0 2", 4 + 42 + 20);
        Sentences.test(SECTION, "The largest gap (of several the one that is nearest to the front end) is not walked");
        // Gaps 1, 1, 1: all behind the first one. Gaps 7, 7, 7: too. Gaps 6, 7, 7 or 7, 6, 7: the first 7.
        batch("3 2 1", "0 1, 1 1, 1 2, 2 1").then("setPolicy 2").stops(0, 0, 0, 2, 1, 3);
        batch("3 20 1", "0 1, 1 7, 1 14, 2 1").then("setPolicy 2").stops(0, 0, 0, 2, 1, 3);
        batch("3 19 1", "0 1, 1 6, 1 13, 2 1").then("setPolicy 2").stops(0, 0, 0, 2, 3, 1);
        batch("3 19 1", "0 1, 1 7, 1 13, 2 1").then("setPolicy 2").stops(0, 0, 0, 2, 1, 3);
        // The gap at the back end is the largest one: nothing lies behind it.
        batch("3 19 1", "0 1, 1 6, 1 12, 2 1").then("setPolicy 2").stops(0, 0, 0, 3, 1, 2);
        Sentences.test(SECTION, "The length is the walk plus twice depth + 1, plus for each aisle between them twice");
        batch("6 20 9", "0 20, 1 20, 2 20, 3 20, 4 20, 5 20").is("routeLength 0 0 2", 90 + 42 + 4 * 2);
        batch("3 2 1", "0 1, 1 1, 1 2, 2 1").is("routeLength 0 0 2", 4 + 6 + 4);
        Sentences.test(SECTION, "With LARGEST GAP, the first aisle comes first; then the places behind the gaps");
        batch("4 10 1", "3 2, 3 9, 2 1, 2 10, 1 1, 1 10, 0 9, 0 2, 1 2, 2 9").then("setPolicy 2")
                .stops(0, 0, 7, 6, 5, 3, 9, 1, 0, 2, 4, 8);
    }

    private static void combined() {
        Sentences.test(SECTION, "3 COMBINED Each aisle is either traversed, or entered and left at the same end.");
        // Traversed, left at the back end, traversed, left at the front end.
        batch("4 20 1", "0 20, 1 20, 2 20, 3 1").then("setPolicy 3").is("routeLength 0 0 3", 6 + 21 + 2 + 21 + 2);
        Sentences.test(SECTION, "The picker stands at the front end before the first aisle.");
        batch("6 20 9", "5 1").is("routeLength 0 0 3", 90 + 2);
        batch("1 20 9", "0 20").is("routeLength 0 0 3", 40);
        Sentences.test(SECTION, "An aisle that is traversed costs depth + 1, and the picker is at the other end");
        batch("2 20 1", "0 20, 1 20").is("routeLength 0 0 3", 2 + 42);
        batch("2 2 1", "0 2, 1 2").is("routeLength 0 0 3", 2 + 6);
        Sentences.test(SECTION, "Otherwise it costs twice the distance from the end at which the picker is to the farthest");
        // From the back end the lowest place is the farthest one: aisle 1 costs 2 * 2 there.
        batch("3 20 1", "0 20, 1 19, 1 20, 2 20").is("routeLength 0 0 3", 4 + 21 + 4 + 21);
        Sentences.test(SECTION, "After the last aisle the picker must be at the front end.");
        // One aisle can't be traversed alone, nor can three, however far the places are.
        batch("1 20 1", "0 20").is("routeLength 0 0 3", 40);
        batch("3 20 1", "0 20, 1 1, 2 20").is("routeLength 0 0 3", 4 + 21 + 21 + 40);
        Sentences.test(SECTION, "The route with the least length (the walk plus these costs) is taken; of several the first");
        // Depth 3: place 2 of both aisles costs 4 + 4, and 4 + 4 if both are traversed: they are not.
        batch("2 3 1", "0 2, 0 1, 1 1, 1 2").then("setPolicy 3").is("routeLength 0 0 3", 2 + 8).stops(0, 0, 1, 0, 2, 3);
        // Place 3 in aisle 0 makes it 6 + 4 against 4 + 4: they are.
        batch("2 3 1", "0 3, 0 1, 1 1, 1 2").then("setPolicy 3").is("routeLength 0 0 3", 2 + 8).stops(0, 0, 1, 0, 3, 2);
        // Three aisles: the first and the last one are traversed, and between them aisle 1 costs 2 from its back end.
        batch("3 3 1", "0 3, 1 3, 2 3, 2 1").then("setPolicy 3").is("routeLength 0 0 3", 4 + 4 + 2 + 4)
                .stops(0, 0, 0, 1, 2, 3);
        // Now aisle 1 costs 6 from each end: all ways with two traversed aisles cost 8 + 6, and the first of them
        // does not traverse aisle 0.
        batch("3 3 1", "0 3, 1 1, 1 3, 2 3, 2 1").then("setPolicy 3").is("routeLength 0 0 3", 4 + 6 + 8)
                .stops(0, 0, 0, 1, 2, 3, 4);
    }

    private static void stops() {
        Sentences.test(SECTION, "The stops of a route are the items of the batch in the zone, in the order in which");
        Run same = batch("1 2 1", "0 2, 0 1, 0 2, 0 1, 0 2");
        for (int policy = 0; policy < 4; policy++) {
            same.then("setPolicy " + policy).stops(0, 0, 1, 3, 0, 2, 4);
        }
        batch("2 2 1", "1 2, 0 1, 1 2, 0 1").then("setPolicy 1").stops(0, 0, 1, 3, 0, 2);
        // Items of no order, and of another batch, at the same places.
        same.then("addItem 0 2 1 1\naddItem 0 1 1 1\naddOrder 0\naddLine 1 6 1\naddBatch 2").stops(0, 0, 1, 3, 0, 2, 4)
                .stops(1, 0, 6).lengths(1, 0, 2, 2, 2, 2);
        Sentences.test(SECTION, "An aisle that is traversed from front to back is visited by ascending places, and one from");
        batch("2 20 1", "0 20, 0 1, 1 1, 1 20").then("setPolicy 1").stops(0, 0, 1, 0, 3, 2)
                .then("setPolicy 2").stops(0, 0, 1, 0, 3, 2).then("setPolicy 3").stops(0, 0, 1, 0, 3, 2);
        Sentences.test(SECTION, "An aisle that is entered and left at its front end is visited by ascending places");
        batch("3 20 1", "0 20, 1 19, 1 20, 2 20, 2 19").then("setPolicy 3").stops(0, 0, 0, 2, 1, 3, 4);
        // Behind two traversed aisles the picker is in front again.
        batch("3 20 1", "0 20, 1 20, 1 1, 2 2, 2 1").then("setPolicy 3").is("routeLength 0 0 3", 4 + 42 + 4)
                .stops(0, 0, 0, 1, 2, 4, 3);
        Sentences.test(SECTION, "One policy is in force (0 at first).");
        Run.of(Halls.NEW).is("setPolicy 3", 0);
        batch("1 2 1", "0 2").is("batchRoute 0", 4).is("setPolicy 0", 0);
        Sentences.test(SECTION, "The route length of a batch is the sum of the lengths of its routes in all zones by this");
        batch("3 20 1", "0 20, 1 20, 2 20").is("batchRoute 0", 4 + 120).then("setPolicy 1").is("batchRoute 0", 4 + 82)
                .then("setZones 1 2").is("batchRoute 0", 120).then("setZones 1 -1").is("batchRoute 0", 40 + 2 + 42);
    }

    private static void promise26() {
        Sentences.test("Promise 26", "- `policy`: 0 to 3");
        for (String hall : new String[] {Halls.NEW, Halls.BUSY, Halls.FULL}) {
            Run.of(hall).range("setPolicy #", 0, 3, Run.ARGUMENT);
        }
        Sentences.test("Promise 26", "Returns the previous policy.");
        Run.of(Halls.NEW).is("setPolicy 3", 0).is("setPolicy 3", 3).is("setPolicy 0", 3).is("setPolicy 0", 0);
        Sentences.test("Promise 26", "Throws `IllegalArgumentException` if policy is out of range");
        Run.of("setPolicy 3").refuses("setPolicy 4", Run.ARGUMENT).refuses("setPolicy -1", Run.ARGUMENT)
                .is("setPolicy 1", 3);
    }

    private static void promise27() {
        Sentences.test("Promise 27", "- `second`: the first aisle of zone 1, at least 1; NONE: there is only one zone");
        Run.of("setLayout 6 2 1").is("setZones 1 -1", 2).is("setZones 5 -1", 2).is("zoneOf 4", 0).is("zoneOf 5", 1)
                .is("setZones -1 -1", 1).is("zoneOf 5", 0).refuses("setZones 0 -1", Run.ARGUMENT)
                .refuses("setZones 0 1", Run.ARGUMENT).refuses("setZones 6 -1", Run.ARGUMENT);
        Run.of("setLayout 2 2 1").is("setZones 1 -1", 2).refuses("setZones 2 -1", Run.ARGUMENT);
        Sentences.test("Promise 27", "- `third`: the first aisle of zone 2, greater than second; NONE: there are no more");
        Run.of("setLayout 6 2 1").is("setZones 1 2", 3).is("setZones 1 5", 3).is("setZones 4 5", 3)
                .is("setZones 4 -1", 2).is("zoneOf 5", 1).refuses("setZones 5 6", Run.ARGUMENT)
                .refuses("setZones 5 5", Run.ARGUMENT).refuses("setZones 4 3", Run.ARGUMENT);
        Sentences.test("Promise 27", "Returns the number of zones.");
        Run.of(Halls.NEW).is("setZones -1 -1", 1).is("setZones 3 -1", 2).is("setZones 2 3", 3).is("setZones -1 -1", 1);
    }

    private static void promise27Refused() {
        Sentences.test("Promise 27", "Throws `IllegalArgumentException` if second or third is not NONE and no such aisle");
        for (String hall : new String[] {Halls.BUSY, Halls.FULL}) {
            Run x = Run.of(hall);
            for (String zones : new String[] {"6 -1", "7 -1", "0 -1", "-2 -1", "MIN -1", "MAX -1", "1 6", "1 7", "1 -2",
                "1 MIN", "1 MAX", "1 1", "2 1", "1 0", "-1 0", "-1 1", "-1 4", "-1 6", "-1 -2", "-1 MAX", "-1 MIN",
                "MAX MAX", "MIN MIN", "MAX MIN", "0 0"}) {
                x.refuses("setZones " + zones, Run.ARGUMENT);
            }
        }
        Run.of("setLayout 1 2 1").refuses("setZones 1 -1", Run.ARGUMENT).refuses("setZones 0 -1", Run.ARGUMENT)
                .refuses("setZones -1 0", Run.ARGUMENT).is("setZones -1 -1", 1);
        Run.of("setLayout 2 2 1").refuses("setZones 1 2", Run.ARGUMENT).refuses("setZones 1 1", Run.ARGUMENT);
        Run.of("setLayout 3 2 1").is("setZones 1 2", 3).refuses("setZones 2 3", Run.ARGUMENT);
    }

    private static void promise28To30() {
        Sentences.test("Promise 28", "Throws `IndexOutOfBoundsException` if there is no such aisle");
        Run.of("setLayout 1 2 1").range("zoneOf #", 0, 0, Run.INDEX);
        Run.of(Halls.BUSY).range("zoneOf #", 0, 4, Run.INDEX);
        Run.of(Halls.FULL).range("zoneOf #", 0, 5, Run.INDEX);

        Sentences.test("Promise 29", "Sets the capacity of a buffer (also of one between zones that do not exist at");
        Run.of(Halls.NEW).is("setBuffer 0 0", 1).is("setBuffer 1 4", 1).then("setZones 1 2\nsetZones -1 -1\nsetLayout 1 2 1")
                .is("setBuffer 0 1", 0).is("setBuffer 1 1", 4);
        Sentences.test("Promise 29", "- `buffer`: 0 or 1");
        Run.of(Halls.NEW).range("setBuffer # 2", 0, 1, Run.INDEX);
        Sentences.test("Promise 29", "- `capacity`: 0 to 4");
        Run.of(Halls.NEW).range("setBuffer 0 #", 0, 4, Run.ARGUMENT).range("setBuffer 1 #", 0, 4, Run.ARGUMENT);
        Sentences.test("Promise 29", "Returns the previous capacity.");
        Run.of(Halls.NEW).is("setBuffer 1 4", 1).is("setBuffer 1 0", 4).is("setBuffer 1 0", 0).is("setBuffer 0 0", 1);
        Sentences.test("Promise 29", "Throws `IndexOutOfBoundsException` if there is no such buffer");
        Run.of(Halls.BUSY).refuses("setBuffer 2 5", Run.INDEX).refuses("setBuffer -1 -1", Run.INDEX)
                .refuses("setBuffer MIN MAX", Run.INDEX);
        Sentences.test("Promise 29", "Throws `IllegalArgumentException` if capacity is out of range");
        Run.of(Halls.BUSY).range("setBuffer 0 #", 0, 4, Run.ARGUMENT).range("setBuffer 1 #", 0, 4, Run.ARGUMENT);

        Sentences.test("Promise 30", "- `setup`: 0 to 99");
        Run.of(Halls.BUSY).range("setTimes # 5", 0, 99, Run.ARGUMENT);
        Sentences.test("Promise 30", "- `perItem`: 0 to 99");
        Run.of(Halls.BUSY).range("setTimes 5 #", 0, 99, Run.ARGUMENT);
        Sentences.test("Promise 30", "Returns 100 times the previous setup time plus the previous time per item.");
        Run.of(Halls.NEW).is("setTimes 99 99", 1).is("setTimes 0 0", 9999).is("setTimes 99 0", 0).is("setTimes 0 99", 9900)
                .is("setTimes 0 1", 99);
        Sentences.test("Promise 30", "Throws `IllegalArgumentException` if an argument is out of range");
        Run.of(Halls.FULL).refuses("setTimes 100 0", Run.ARGUMENT).refuses("setTimes 0 100", Run.ARGUMENT)
                .refuses("setTimes -1 0", Run.ARGUMENT).refuses("setTimes 0 -1", Run.ARGUMENT)
                .refuses("setTimes MIN MAX", Run.ARGUMENT).is("setTimes 0 0", 9999);
    }

    private static void promise31() {
        Sentences.test("Promise 31", "- `policy`: 0 to 3");
        Run.of(Halls.BUSY).range("routeLength 1 2 #", 0, 3, Run.ARGUMENT);
        Sentences.test("Promise 31", "Throws `IndexOutOfBoundsException` if there is no such batch or zone");
        noSuchBatchOrZone("routeLength", " 0");
        Run.of(Halls.BUSY).refuses("routeLength 2 0 4", Run.INDEX).refuses("routeLength 0 3 -1", Run.INDEX)
                .refuses("routeLength MIN MAX MIN", Run.INDEX);
        Sentences.test("Promise 31", "Throws `IllegalArgumentException` if policy is out of range");
        Run.of(Halls.FULL).refuses("routeLength 7 2 4", Run.ARGUMENT).refuses("routeLength 0 0 -1", Run.ARGUMENT)
                .refuses("routeLength 0 0 MIN", Run.ARGUMENT).refuses("routeLength 0 0 MAX", Run.ARGUMENT);
    }

    /** BUSY has 2 batches and 3 zones, FULL has 8 and 3, and a new hall has a zone, but no batch. */
    static void noSuchBatchOrZone(String name, String more) {
        Run.of(Halls.NEW).noneOf(name + " # 0" + more, Run.INDEX).noneOf(name + " 0 #" + more, Run.INDEX);
        Run.of(Halls.BUSY).range(name + " # 2" + more, 0, 1, Run.INDEX).range(name + " 1 #" + more, 0, 2, Run.INDEX);
        Run.of(Halls.FULL).range(name + " # 0" + more, 0, 7, Run.INDEX).range(name + " 7 #" + more, 0, 2, Run.INDEX)
                .then("setZones 1 -1").range(name + " 7 #" + more, 0, 1, Run.INDEX)
                .then("setZones -1 -1").range(name + " 7 #" + more, 0, 0, Run.INDEX);
    }

    private static void noSuchBatch(String name) {
        Run.of(Halls.NEW).noneOf(name + " #", Run.INDEX);
        Run.of(Halls.BUSY).range(name + " #", 0, 1, Run.INDEX);
        Run.of(Halls.FULL).range(name + " #", 0, 7, Run.INDEX);
    }

    private static void promise32And33() {
        Sentences.test("Promise 32", "Returns its route length in all zones by the policy in force.");
        batch("3 2 1", "0 2, 2 2").is("batchRoute 0", 4 + 8).then("setZones 1 2").is("batchRoute 0", 8);
        Sentences.test("Promise 32", "Throws `IndexOutOfBoundsException` if there is no such batch");
        noSuchBatch("batchRoute");
        Sentences.test("Promise 33", "Returns the policy by which its routes in all zones together are shortest, of several");
        // Of several equal ones the lowest; the last line but one has 3 alone, the last one counts two zones together.
        batch("1 20 1", "0 20").is("bestPolicy 0", 0);
        batch("2 20 1", "0 20, 1 20").lengths(0, 0, 82, 44, 44, 44).is("bestPolicy 0", 1);
        batch("4 3 1", "0 3, 1 3, 1 1, 2 3, 2 1, 3 3").lengths(0, 0, 30, 22, 22, 22).is("bestPolicy 0", 1);
        batch("3 20 1", "0 20, 1 20, 2 20").lengths(0, 0, 124, 86, 48, 48).is("bestPolicy 0", 2);
        batch("2 20 1", "0 1, 1 1").lengths(0, 0, 6, 44, 44, 6).is("bestPolicy 0", 0);
        batch("4 20 1", "0 20, 1 20, 2 1, 3 1").lengths(0, 0, 90, 90, 52, 52).is("bestPolicy 0", 2);
        batch("4 20 1", "0 1, 1 20, 2 20, 3 1").lengths(0, 0, 90, 90, 52, 52).is("bestPolicy 0", 2);
        batch("3 20 1", "0 20, 1 20, 2 1").lengths(0, 0, 86, 48, 48, 48).is("bestPolicy 0", 1);
        batch("4 10 2", "0 10, 1 1, 1 10, 2 1, 3 1").lengths(0, 0, 56, 56, 40, 38).is("bestPolicy 0", 3);
        batch("5 20 1", "0 20, 1 20, 1 1, 2 20, 3 20, 4 1").then("setZones 3 -1")
                .is("routeLength 0 1 3", 2 + 42).is("bestPolicy 0", 2);
        Sentences.test("Promise 33", "Throws `IndexOutOfBoundsException` if there is no such batch");
        noSuchBatch("bestPolicy");
    }

    private static void promise34And35() {
        Sentences.test("Promise 34", "Returns the number of stops of the route.");
        // All 24 items in one batch.
        Run all = Run.of(Halls.FULL).then("dissolve 0\ndissolve 0\ndissolve 0\ndissolve 0").is("addBatch 15", 4)
                .is("stopCount 4 0", 8).is("stopCount 4 1", 12).is("stopCount 4 2", 4)
                .then("setZones -1 -1").is("stopCount 4 0", 24);
        Sentences.test("Promise 34", "Throws `IndexOutOfBoundsException` if there is no such batch or zone");
        noSuchBatchOrZone("stopCount", "");
        Sentences.test("Promise 35", "- `stop`: 0 for the first stop");
        all.range("stopItem 4 0 #", 0, 23, Run.INDEX);
        batch("1 2 1", "0 2").range("stopItem 0 0 #", 0, 0, Run.INDEX).is("stopItem 0 0 0", 0);
        Sentences.test("Promise 35", "Throws `IndexOutOfBoundsException` if there is no such batch, zone or stop");
        // Batch 0 of BUSY has one stop in each of the zones 1 and 2 at least, and none in zone 0.
        Run.of(Halls.NEW).noneOf("stopItem # 0 0", Run.INDEX).noneOf("stopItem 0 # 0", Run.INDEX);
        Run.of(Halls.BUSY).noneOf("stopItem 0 0 #", Run.INDEX).range("stopItem 0 1 #", 0, 1, Run.INDEX)
                .range("stopItem 0 2 #", 0, 1, Run.INDEX).range("stopItem 1 0 #", 0, 0, Run.INDEX)
                .refuses("stopItem 2 0 0", Run.INDEX).refuses("stopItem -1 0 0", Run.INDEX)
                .refuses("stopItem 0 3 0", Run.INDEX).refuses("stopItem 0 -1 0", Run.INDEX)
                .refuses("stopItem MAX MIN MAX", Run.INDEX).refuses("stopItem MIN MAX MIN", Run.INDEX);
        Run.of(Halls.FULL).refuses("stopItem 8 0 0", Run.INDEX).refuses("stopItem 0 3 0", Run.INDEX);
    }

    private static void promise36() {
        Sentences.test("Promise 36", "Returns by how much the sum of the route lengths of all batches is less");
        Run.of(Halls.NEW).is("savedDistance", 0);
        Run.of(Halls.FULL).is("savedDistance", 0);
        // Open, done and cancelled orders do not count.
        Run.of(Halls.BUSY).then("dissolve 0\ndissolve 0").is("savedDistance", 0).then("addBatch 32").is("savedDistance", 0);
        // With LARGEST GAP a batch can be longer than its orders alone: 22 + 2 against 2 and 2 + 2.
        Run.of("setLayout 2 10 1\nsetPolicy 2\naddItem 0 1 1 1\naddItem 1 1 1 1\naddOrder 0\naddLine 0 0 1\naddOrder 0\n"
                + "addLine 1 1 1\naddBatch 3").is("savedDistance", 2 + 4 - 24);
    }

    private static void settingsPlain() {
        Sentences.test("Promise 26", "Sets the policy in force.");
        // Lengths by the policies: 4 + 2 * 2 + 2 * 1 + 2 * 20, 4 + 21 * 2 + 2 * 20, 4 + 21 * 2 + 2, and the first one again.
        Run x = batch("3 20 1", "0 2, 1 1, 2 20").lengths(0, 0, 50, 86, 48, 50);
        int[] lengths = {50, 86, 48, 50};
        for (int policy = 3; policy >= 0; policy--) {
            x.changes("setPolicy " + policy, "policy").is("batchRoute 0", lengths[policy]).is("workTime 0 0", lengths[policy] + 3);
            x.stops(0, 0, policy == 2 ? new int[] {0, 2, 1} : new int[] {0, 1, 2}).lengths(0, 0, lengths);
        }
        Sentences.test("Promise 27", "Divides the hall into zones.");
        Run.of("setLayout 6 2 1").changes("setZones 2 -1", "zones").are("zoneOf #", 0, 0, 1, 1, 1, 1)
                .changes("setZones 2 4", "zones").are("zoneOf #", 0, 0, 1, 1, 2, 2)
                .changes("setZones -1 -1", "zones").are("zoneOf #", 0, 0, 0, 0, 0, 0);
        // Items and batches may be there.
        Run.of(Halls.BUSY).changes("setZones 1 3", "zones").stops(0, 1, 2).stops(0, 2, 3, 4, 5).stops(1, 0, 0);
        Sentences.test("Promise 28", "- `aisle`: an aisle");
        Run.of("setLayout 3 2 1").range("zoneOf #", 0, 2, Run.INDEX);
        Sentences.test("Promise 28", "Returns its zone.");
        Run.of(Halls.BUSY).are("zoneOf #", 0, 0, 1, 1, 2);
        Run.of(Halls.FULL).are("zoneOf #", 0, 0, 1, 1, 1, 2);
        Sentences.test("Promise 30", "Sets the setup time and the time per item.");
        // Batch 0 has 2 stops in zone 1, where it walks 26, and 2 in zone 2, where it walks 20.
        Run.of(Halls.BUSY).changes("setTimes 50 8", "times").are("workTime 0 #", 0, 50 + 26 + 16, 50 + 20 + 16)
                .changes("setTimes 0 8", "times").are("workTime 0 #", 0, 42, 36)
                .changes("setTimes 0 0", "times").are("workTime 0 #", 0, 26, 20);
    }

    private static void routesPlain() {
        Sentences.test("Promise 31", "Returns the length of the route of the batch in the zone by this policy.");
        // Zone 1 has place 1 of its first aisle and place 7 of the next one; the policy in force does not matter.
        Run x = Run.of(Halls.BUSY);
        for (int policy = 0; policy < 4; policy++) {
            x.then("setPolicy " + policy).lengths(0, 0, 0, 0, 0, 0).lengths(0, 1, 4 + 2 + 14, 4 + 22, 4 + 22, 4 + 2 + 14)
                    .lengths(0, 2, 20, 20, 20, 20).lengths(1, 0, 6, 6, 6, 6).lengths(1, 1, 0, 0, 0, 0).lengths(1, 2, 0, 0, 0, 0);
        }
        Sentences.test("Promise 35", "Returns the item of the stop, by the policy in force.");
        // Policy 0: aisle by aisle. 1 and 3: up, down. 2: with two aisles as 1.
        Run y = batch("2 20 1", "0 19, 0 20, 1 19, 1 20").stops(0, 0, 0, 1, 2, 3);
        for (int policy = 1; policy < 4; policy++) {
            y.then("setPolicy " + policy).stops(0, 0, 0, 1, 3, 2);
        }
        y.then("setPolicy 0").stops(0, 0, 0, 1, 2, 3).then("setZones 1 -1\nsetPolicy 1").stops(0, 0, 0, 1).stops(0, 1, 2, 3);
    }

    private static void whichBatchAndZone() {
        String[] names = {"routeLength # 1 0", "batchRoute #", "bestPolicy #", "stopCount # 1", "stopItem # 0 0"};
        for (int k = 0; k < names.length; k++) {
            Sentences.test("Promise " + (31 + k), "- `batch`: a batch");
            Run.of(Halls.FULL).range(names[k], 0, 7, Run.INDEX).then("dissolve 3").range(names[k], 0, 6, Run.INDEX);
        }
        String[] zones = {"31 routeLength 0 # 0", "34 stopCount 0 #", "35 stopItem 0 # 0"};
        for (String zone : zones) {
            Sentences.test("Promise " + zone.substring(0, 2), "- `zone`: a zone");
            batch("3 2 1", "0 1, 1 1, 2 1").range(zone.substring(3), 0, 0, Run.INDEX)
                    .then("setZones 1 -1").range(zone.substring(3), 0, 1, Run.INDEX)
                    .then("setZones 1 2").range(zone.substring(3), 0, 2, Run.INDEX);
        }
    }
}
