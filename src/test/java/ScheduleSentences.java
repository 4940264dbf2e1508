/** The sentences about the schedule: promises 37 to 46. */
final class ScheduleSentences {
    private static final String SECTION = "SCHEDULE";

    private ScheduleSentences() {
    }

    static void run() {
        zonesAndWork();
        buffers();
        times();
        promise37To39();
        promise40And41();
        promise42();
        promise43And44();
        promise45And46();
        timesPlain();
        whichBatchZoneOrder();
    }

    /**
     * A zone for each aisle, and no time per item, so that an item at place p takes 2 * p. The script
     * "place place, place place, .." has the places of a batch in the zones; 0 is for no item.
     */
    private static Run batches(int zones, String script) {
        Run x = Run.of("setLayout " + zones + " 20 9\nsetTimes 0 0\nsetZones " + (zones > 1 ? 1 : -1) + " "
                + (zones > 2 ? 2 : -1));
        int items = 0;
        String[] batches = script.split(",");
        for (int batch = 0; batch < batches.length; batch++) {
            x.then("addOrder 0");
            String[] places = batches[batch].trim().split(" ");
            for (int zone = 0; zone < zones; zone++) {
                if (!places[zone].equals("0")) {
                    x.then("addItem " + zone + " " + places[zone] + " 1 9\naddLine " + batch + " " + items + " 1");
                    items++;
                }
            }
            x.then("addBatch " + (1 << batch));
        }
        return x;
    }

    private static void zonesAndWork() {
        Sentences.test(SECTION, "Each zone has one picker.");
        batches(1, "1, 20, 1").are("startTime # 0", 0, 2, 42).are("leaveTime # 0", 2, 42, 44);
        Sentences.test(SECTION, "Every batch goes through all zones in their order, and the batches go through every");
        // Batch 0 is slow in zone 0 and nobody overtakes it; a zone without work is gone through in no time.
        batches(3, "20 1 1, 1 1 1, 0 0 1").are("startTime 0 #", 0, 40, 42).are("leaveTime 0 #", 40, 42, 44)
                .are("startTime 1 #", 40, 42, 44).are("leaveTime 1 #", 42, 44, 46)
                .are("startTime 2 #", 42, 44, 46).are("leaveTime 2 #", 42, 44, 48);
        Sentences.test(SECTION, "The work time of a batch in a zone is the setup time (0 to 99, 0 at first), plus the");
        Run.of("addItem 0 1 1 1\naddOrder 0\naddLine 0 0 1\naddBatch 1").is("workTime 0 0", 0 + 2 + 1);
        batches(2, "1 0").is("workTime 0 0", 2).is("workTime 0 1", 0).then("setTimes 99 99")
                .is("workTime 0 0", 99 + 2 + 99).is("workTime 0 1", 0).then("setTimes 99 0").is("workTime 0 0", 101)
                .then("setTimes 0 99").is("workTime 0 0", 101).refuses("setTimes 100 0", Run.ARGUMENT)
                .refuses("setTimes 0 100", Run.ARGUMENT);
        // The most that there can be: 24 stops in 6 aisles of depth 20 and width 9, all of them walked up to the end.
        Run most = Run.of(Halls.FULL).then("setZones -1 -1\ndissolve 0\ndissolve 0\ndissolve 0\ndissolve 0\naddBatch 15")
                .then("setPolicy 0").is("batchRoute 4", 90 + 2 * (20 + 20 + 19 + 19 + 18 + 18))
                .is("workTime 4 0", 99 + 318 + 24 * 99);
        most.then("setTimes 0 0").is("workTime 4 0", 318);
    }

    private static void buffers() {
        Sentences.test(SECTION, "Between zone k and zone k + 1 is buffer k with a capacity (0 to 4; 1 at first).");
        // Batch 0 works in zone 1 from 2 to 42; the other five take 2 in each zone.
        String slow = "1 20, 1 1, 1 1, 1 1, 1 1, 1 1";
        batches(2, slow).is("blockedTime 0", 36).is("setBuffer 0 0", 1).is("blockedTime 0", 38)
                .is("setBuffer 0 1", 0).is("blockedTime 0", 36).is("setBuffer 0 2", 1).is("blockedTime 0", 34)
                .is("setBuffer 0 3", 2).is("blockedTime 0", 32).is("setBuffer 0 4", 3).is("blockedTime 0", 30)
                .refuses("setBuffer 0 5", Run.ARGUMENT).refuses("setBuffer 0 -1", Run.ARGUMENT)
                .is("setBuffer 1 0", 1).is("blockedTime 0", 30);
        // Buffer 1 is between the zones 1 and 2.
        batches(3, "0 1 20, 0 1 1, 0 1 1, 0 1 1, 0 1 1, 0 1 1").is("blockedTime 1", 36)
                .is("setBuffer 1 4", 1).is("blockedTime 1", 30).is("setBuffer 1 0", 4).is("blockedTime 1", 38);
        Sentences.test(SECTION, "From another zone k, if the capacity of buffer k is 0, batch b can leave when batch b - 1");
        batches(2, slow).then("setBuffer 0 0").are("leaveTime # 0", 2, 42, 44, 46, 48, 50)
                .are("startTime # 1", 2, 42, 44, 46, 48, 50)
                .then("setBuffer 0 1").are("leaveTime # 0", 2, 4, 42, 44, 46, 48)
                .then("setBuffer 0 2").are("leaveTime # 0", 2, 4, 6, 42, 44, 46)
                .then("setBuffer 0 3").are("leaveTime # 0", 2, 4, 6, 8, 42, 44)
                .then("setBuffer 0 4").are("leaveTime # 0", 2, 4, 6, 8, 10, 42)
                .are("startTime # 1", 2, 42, 44, 46, 48, 50).are("leaveTime # 1", 42, 44, 46, 48, 50, 52);
        // Batch 0 can leave at once, also when it has nothing to do.
        for (int capacity = 0; capacity <= 4; capacity++) {
            batches(3, "0 0 1").then("setBuffer 0 " + capacity + "\nsetBuffer 1 " + capacity).are("leaveTime 0 #", 0, 0, 2);
        }
        // Fewer batches than the capacity, and just as many: none waits. One more waits.
        batches(2, "1 20, 1 1, 1 1").then("setBuffer 0 4").are("leaveTime # 0", 2, 4, 6).is("blockedTime 0", 0);
        batches(2, "1 20, 1 1, 1 1").then("setBuffer 0 2").is("blockedTime 0", 0).then("setBuffer 0 1")
                .is("blockedTime 0", 36);
        Sentences.test(SECTION, "From the last zone it can leave at once.");
        batches(2, "1 20, 1 1").then("setBuffer 0 0\nsetBuffer 1 0").are("leaveTime # 1", 42, 44).is("blockedTime 1", 0);
        batches(1, "1, 20").then("setBuffer 0 0\nsetBuffer 1 0").are("leaveTime # 0", 2, 42).is("blockedTime 0", 0);
    }

    private static void times() {
        Sentences.test(SECTION, "A batch arrives at zone 0 at the time 0.");
        batches(3, "0 0 1").are("startTime 0 #", 0, 0, 0).are("leaveTime 0 #", 0, 0, 2);
        batches(1, "1").is("startTime 0 0", 0);
        Sentences.test(SECTION, "A batch starts in a zone when it has left the zone before and the batch before it in");
        // The later one of both: the zone before for batch 1 (10), the batch before for batch 2 (30).
        batches(2, "1 1, 4 10, 1 1").is("startTime 1 1", 10).is("startTime 2 1", 30);
        // Both at once: batch 1 leaves zone 0 just when batch 0 leaves zone 1.
        batches(2, "1 2, 2 1").is("leaveTime 1 0", 6).is("leaveTime 0 1", 6).is("startTime 1 1", 6).is("blockedTime 0", 0);
        Sentences.test(SECTION, "When its work time is over, it leaves the zone, if it can, and otherwise as soon as it can");
        // Without a buffer: just in time, one unit of place too early, and one too late.
        batches(2, "1 2, 2 1").then("setBuffer 0 0").is("leaveTime 1 0", 6).is("blockedTime 0", 0);
        batches(2, "1 2, 1 1").then("setBuffer 0 0").is("leaveTime 1 0", 6).is("blockedTime 0", 2);
        batches(2, "1 2, 3 1").then("setBuffer 0 0").is("leaveTime 1 0", 8).is("blockedTime 0", 0);
        // A batch that has no work in zone 0 is blocked there from its start on.
        batches(2, "1 20, 0 1").then("setBuffer 0 0").is("startTime 1 0", 2).is("leaveTime 1 0", 42).is("blockedTime 0", 40);
        Sentences.test(SECTION, "The completion time of a batch, and of all its orders, is the time at which it leaves");
        batches(3, "1 1 1, 0 20 0").is("lateness 0", 6).is("lateness 1", 44).is("makespan", 44)
                .then("dissolve 0\ndissolve 0\naddBatch 3").is("lateness 0", 44).is("lateness 1", 44);
        Sentences.test(SECTION, "The lateness of an order is its completion time minus its due time.");
        batches(1, "1").is("lateness 0", 2).then("setDue 0 2").is("lateness 0", 0).then("setDue 0 9999")
                .is("lateness 0", -9997);
        Sentences.test(SECTION, "The tardiness of an order is its lateness, but at least 0.");
        batches(1, "1").is("totalTardiness", 2).then("setDue 0 1").is("totalTardiness", 1).then("setDue 0 2")
                .is("totalTardiness", 0).then("setDue 0 3").is("totalTardiness", 0).then("setDue 0 9999")
                .is("totalTardiness", 0);
    }

    private static void promise37To39() {
        String[] names = {"workTime", "startTime", "leaveTime"};
        for (int k = 0; k < 3; k++) {
            Sentences.test("Promise " + (37 + k), "Throws `IndexOutOfBoundsException` if there is no such batch or zone");
            RouteSentences.noSuchBatchOrZone(names[k], "");
            Run.of(Halls.BUSY).refuses(names[k] + " MIN MAX", Run.INDEX).refuses(names[k] + " MAX MIN", Run.INDEX)
                    .refuses(names[k] + " -1 3", Run.INDEX);
        }
        Sentences.test("Promise 39", "Returns the time at which the batch leaves the zone.");
        batches(2, "1 20, 1 1").is("leaveTime 1 1", 44).then("dissolve 0").is("leaveTime 0 1", 4);
    }

    private static void promise40And41() {
        Sentences.test("Promise 40", "Returns how long the picker of the zone is blocked, for all batches together.");
        Run.of("setZones 1 2").are("blockedTime #", 0, 0, 0);
        batches(3, "1 20 1, 1 1 20, 1 1 1, 1 1 1").then("setBuffer 0 0\nsetBuffer 1 0")
                // Zone 0 is blocked by the batches 1 and 3, zone 1 by batch 2.
                .are("leaveTime # 0", 2, 42, 44, 84).are("leaveTime # 1", 42, 44, 84, 86)
                .are("blockedTime #", 38 + 38, 38, 0);
        Sentences.test("Promise 40", "Throws `IndexOutOfBoundsException` if there is no such zone");
        Run.of(Halls.NEW).range("blockedTime #", 0, 0, Run.INDEX);
        Run.of("setZones 1 -1").range("blockedTime #", 0, 1, Run.INDEX);
        Run.of(Halls.BUSY).range("blockedTime #", 0, 2, Run.INDEX);
        Run.of(Halls.FULL).range("blockedTime #", 0, 2, Run.INDEX);
        Sentences.test("Promise 41", "Returns the completion time of the last batch; 0 without batches.");
        Run.of(Halls.NEW).is("makespan", 0);
        Run.of("setZones 1 2\naddItem 0 1 1 1\naddOrder 1\naddLine 0 0 1").is("makespan", 0).then("addBatch 1")
                .is("makespan", 3).then("pickBatch").is("makespan", 0);
        batches(3, "20 20 20, 0 0 1").is("makespan", 122);
    }

    private static void promise42() {
        Sentences.test("Promise 42", "Returns its lateness, which may be negative.");
        batches(1, "20, 1").then("setDue 1 9999").is("lateness 0", 40).is("lateness 1", 42 - 9999);
        Sentences.test("Promise 42", "Throws `IndexOutOfBoundsException` if there is no such order");
        Run.of(Halls.NEW).noneOf("lateness #", Run.INDEX);
        Run.of(Halls.BUSY).refuses("lateness 9", Run.INDEX).refuses("lateness -1", Run.INDEX)
                .refuses("lateness MIN", Run.INDEX).refuses("lateness MAX", Run.INDEX);
        Run.of(Halls.FULL).refuses("lateness 16", Run.INDEX);
        Sentences.test("Promise 42", "Throws `IllegalStateException` if the order is not BATCHED");
        Run x = Run.of(Halls.BUSY).then("lateness 3\nlateness 4\nlateness 5");
        for (int order : new int[] {0, 1, 2, 6, 7, 8}) {
            x.refuses("lateness " + order, Run.STATE);
        }
        Run.of(Halls.FULL).then("lateness 7").refuses("lateness 8", Run.STATE).refuses("lateness 15", Run.STATE)
                .then("dissolve 7").refuses("lateness 7", Run.STATE);
    }

    private static void promise43And44() {
        Sentences.test("Promise 43", "Returns the BATCHED orders whose tardiness is greater than 0, as a bit mask.");
        Run.of(Halls.NEW).is("lateOrders", 0);
        batches(1, "1, 1, 1").is("lateOrders", 7).then("setDue 0 2").is("lateOrders", 6).then("setDue 0 1")
                .is("lateOrders", 7).then("setDue 1 9999\nsetDue 2 9999").is("lateOrders", 1)
                .then("dissolve 0").is("lateOrders", 0).then("pickBatch\npickBatch").is("lateOrders", 0);
        // All sixteen orders in one batch.
        Run sixteen = Run.of("addItem 0 1 1 1");
        for (int order = 0; order < 16; order++) {
            sixteen.then("addOrder 0\naddLine " + order + " 0 1");
        }
        sixteen.then("addBatch 65535").is("lateOrders", 65535).is("totalTardiness", 48)
                .is("meanTardinessNumerator", 3).is("meanTardinessDenominator", 1);
        Sentences.test("Promise 44", "Returns the sum of the tardiness of all BATCHED orders.");
        Run.of(Halls.NEW).is("totalTardiness", 0);
        // Open, done and cancelled orders do not count, and early ones take nothing away.
        batches(1, "1, 1, 1, 1").then("setDue 1 9999\ndissolve 3\ncancel 2").is("totalTardiness", 2)
                .then("pickBatch").is("totalTardiness", 0);
    }

    private static void promise45And46() {
        Sentences.test("Promise 45", "Returns the numerator of the mean tardiness of all BATCHED orders in lowest terms");
        Run.of(Halls.NEW).is("meanTardinessNumerator", 0);
        Run.of("addOrder 0").is("meanTardinessNumerator", 0);
        batches(1, "1, 1").is("meanTardinessNumerator", 3).then("setDue 0 1").is("meanTardinessNumerator", 5)
                .then("setDue 0 2\nsetDue 1 4").is("meanTardinessNumerator", 0).then("dissolve 0\ndissolve 0")
                .is("meanTardinessNumerator", 0);
        // One order alone; two of them beside orders that are open, done and cancelled: only BATCHED ones are counted.
        batches(1, "1").then("setDue 0 1").is("meanTardinessNumerator", 1).is("meanTardinessDenominator", 1);
        batches(1, "1, 1, 1, 1, 1").then("pickBatch\ndissolve 3\ncancel 3\nsetDue 1 1")
                .is("meanTardinessNumerator", 5).is("meanTardinessDenominator", 2)
                .then("dissolve 1").is("meanTardinessNumerator", 1).is("meanTardinessDenominator", 1);
        // The greatest number of orders: 16 of them, of which one is late by 1.
        Run sixteen = Run.of("setTimes 0 0\naddItem 0 1 1 1");
        for (int order = 0; order < 16; order++) {
            sixteen.then("addOrder " + (order == 15 ? 1 : 2) + "\naddLine " + order + " 0 1");
        }
        sixteen.then("addBatch 65535").is("meanTardinessNumerator", 1).is("meanTardinessDenominator", 16);

        Sentences.test("Promise 46", "Returns the denominator of this mean in lowest terms; 1 if there are no BATCHED orders.");
        Run.of(Halls.NEW).is("meanTardinessDenominator", 1);
        Run.of("addOrder 0").is("meanTardinessDenominator", 1);
        batches(1, "1, 1").is("meanTardinessDenominator", 1).then("setDue 0 1").is("meanTardinessDenominator", 2)
                .then("setDue 0 2\nsetDue 1 4").is("meanTardinessDenominator", 1).then("dissolve 0\ndissolve 0")
                .is("meanTardinessDenominator", 1);
    }

    private static void timesPlain() {
        Sentences.test("Promise 37", "Returns the work time.");
        Run.of(Halls.BUSY).are("workTime 0 #", 0, 7 + 26 + 6, 7 + 20 + 6).are("workTime 1 #", 7 + 6 + 3, 0, 0);
        batches(3, "1 2 3, 4 5 6").are("workTime 0 #", 2, 4, 6).are("workTime 1 #", 8, 10, 12);
        Sentences.test("Promise 38", "Returns the time at which the batch starts in the zone.");
        // No buffer behind zone 0: batch 1 waits there until 39.
        Run.of(Halls.BUSY).are("startTime 0 #", 0, 0, 39).are("startTime 1 #", 0, 39, 72);
        batches(3, "1 2 3, 4 5 6").are("startTime 0 #", 0, 2, 6).are("startTime 1 #", 2, 10, 20);
    }

    private static void whichBatchZoneOrder() {
        String[] names = {"workTime", "startTime", "leaveTime"};
        for (int k = 0; k < names.length; k++) {
            Sentences.test("Promise " + (37 + k), "- `batch`: a batch");
            batches(2, "1 1, 1 1, 1 1").range(names[k] + " # 0", 0, 2, Run.INDEX).range(names[k] + " # 1", 0, 2, Run.INDEX);
            Sentences.test("Promise " + (37 + k), "- `zone`: a zone");
            batches(2, "1 1").range(names[k] + " 0 #", 0, 1, Run.INDEX);
            batches(1, "1").range(names[k] + " 0 #", 0, 0, Run.INDEX);
        }
        Sentences.test("Promise 40", "- `zone`: a zone");
        batches(2, "1 1").range("blockedTime #", 0, 1, Run.INDEX);
        batches(3, "1 1 1").range("blockedTime #", 0, 2, Run.INDEX);
        Sentences.test("Promise 42", "- `order`: an order");
        batches(1, "1, 1, 1").range("lateness #", 0, 2, Run.INDEX);
    }
}
