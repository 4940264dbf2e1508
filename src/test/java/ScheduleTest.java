/** Promises 37 to 46: the schedule. */
public final class ScheduleTest {
    public static void main(String[] args) {
        promise37WorkTime();
        promise38And39StartAndLeave();
        promise40BlockedTime();
        promise40Capacities();
        promise41Makespan();
        promise42Lateness();
        promise43LateOrders();
        promise44TotalTardiness();
        promise45And46Mean();
        Check.end("ScheduleTest");
    }

    /**
     * Three zones of one aisle each, and no time per item, so an item at place p takes 2 * p:
     * the work times are 2, 20, 4, then 4, 6, 10, then 2, 2, 2. The due times are 20, 40 and 30.
     */
    private static PickHall threeZones() {
        PickHall x = Texts.hall("hall 3 10 5; zones 1 2; times 0 0; item 0 1 1 9; item 1 10 1 9; item 2 2 1 9;"
                + "item 0 2 1 9; item 1 3 1 9; item 2 5 1 9; item 1 1 1 9; item 2 1 1 9;"
                + "order 20 line 0 1 line 1 1 line 2 1; order 40 line 3 1 line 4 1 line 5 1;"
                + "order 30 line 0 1 line 6 1 line 7 1;");
        for (int k = 0; k < 3; k++) {
            x.addBatch(1 << k);
        }
        return x;
    }

    /** Start and leave times of one batch in all zones. */
    private static void times(String what, PickHall x, int batch, int... due) {
        for (int zone = 0; zone < due.length / 2; zone++) {
            Check.same(what + ", start in zone " + zone, due[2 * zone], x.startTime(batch, zone));
            Check.same(what + ", leave of zone " + zone, due[2 * zone + 1], x.leaveTime(batch, zone));
        }
    }

    private static void blocked(String what, PickHall x, int... due) {
        for (int zone = 0; zone < due.length; zone++) {
            Check.same(what + ", blocked in zone " + zone, due[zone], x.blockedTime(zone));
        }
    }

    private static void promise37WorkTime() {
        PickHall x = threeZones();
        Check.same("route", 20, x.workTime(0, 1));
        x.setTimes(7, 3);
        Check.same("setup, route, one stop", 7 + 20 + 3, x.workTime(0, 1));
        x.setZones(2, -1);
        // Aisles 0 and 1 now: walk 10, places 1 and 10, two stops.
        Check.same("two stops", 7 + 10 + 22 + 6, x.workTime(0, 0));
        x.setPolicy(1);
        Check.same("by the policy in force", 7 + 10 + 22 + 6, x.workTime(0, 0));
        Check.same("by the policy in force", 7 + 10 + 22 + 6, x.workTime(2, 0));
        Check.index("zone 2", x, () -> x.workTime(0, 2));
        Check.index("zone -1", x, () -> x.workTime(0, -1));
        Check.index("batch 3", x, () -> x.workTime(3, 0));
        Check.index("batch -1", x, () -> x.workTime(-1, 0));
        PickHall y = Texts.hall("hall 2 4 1; zones 1; times 9 9; item 0 1 1 9; order 1 line 0 1;");
        y.addBatch(1);
        Check.same("a stop", 9 + 2 + 9, y.workTime(0, 0));
        Check.same("no stops, no setup", 0, y.workTime(0, 1));
    }

    private static void promise38And39StartAndLeave() {
        PickHall x = threeZones();
        times("batch 0", x, 0, 0, 2, 2, 22, 22, 26);
        times("batch 1", x, 1, 2, 6, 22, 28, 28, 38);
        // The buffer behind zone 0 is free when batch 1 starts in zone 1 at 22.
        times("batch 2", x, 2, 6, 22, 28, 30, 38, 40);
        Check.index("start, batch 3", x, () -> x.startTime(3, 0));
        Check.index("start, batch -1", x, () -> x.startTime(-1, 0));
        Check.index("start, zone 3", x, () -> x.startTime(0, 3));
        Check.index("start, zone -1", x, () -> x.startTime(0, -1));
        Check.index("leave, batch 3", x, () -> x.leaveTime(3, 0));
        Check.index("leave, batch -1", x, () -> x.leaveTime(-1, 0));
        Check.index("leave, zone 3", x, () -> x.leaveTime(0, 3));
        Check.index("leave, zone -1", x, () -> x.leaveTime(0, -1));
    }

    private static void promise40BlockedTime() {
        PickHall x = threeZones();
        blocked("capacities 1 and 1", x, 14, 0, 0);
        Check.index("zone 3", x, () -> x.blockedTime(3));
        Check.index("zone -1", x, () -> x.blockedTime(-1));
        Check.same("without batches", 0, new PickHall().blockedTime(0));
    }

    private static void promise40Capacities() {
        PickHall x = threeZones();
        x.setBuffer(0, 0);
        // A batch leaves zone 0 when the one before has left zone 1, at 22 and 28.
        times("no buffer 0, batch 1", x, 1, 2, 22, 22, 28, 28, 38);
        times("no buffer 0, batch 2", x, 2, 22, 28, 28, 30, 38, 40);
        blocked("no buffer 0", x, 16 + 4, 0, 0);
        x.setBuffer(0, 2);
        times("buffer 0 for two, batch 2", x, 2, 6, 8, 28, 30, 38, 40);
        blocked("buffer 0 for two", x, 0, 0, 0);
        x.setBuffer(0, 1);
        x.setBuffer(1, 0);
        times("no buffer 1, batch 2", x, 2, 6, 22, 28, 38, 38, 40);
        blocked("no buffer 1", x, 14, 8, 0);
        x.setZones(-1, -1);
        // One zone: walk 20 and the places 1, 10, 2, then 2, 3, 5, then 1, 1, 1.
        times("one zone, batch 0", x, 0, 0, 46);
        times("one zone, batch 1", x, 1, 46, 86);
        times("one zone, batch 2", x, 2, 86, 112);
    }

    private static void promise41Makespan() {
        PickHall x = threeZones();
        Check.same("last batch", 40, x.makespan());
        x.setZones(-1, -1);
        Check.same("one zone", 112, x.makespan());
        Check.same("without batches", 0, new PickHall().makespan());
    }

    private static void promise42Lateness() {
        PickHall x = threeZones();
        Check.same("late", 6, x.lateness(0));
        Check.same("early", -2, x.lateness(1));
        Check.same("late", 10, x.lateness(2));
        Check.index("order 3", x, () -> x.lateness(3));
        Check.index("order -1", x, () -> x.lateness(-1));
        x.dissolve(1);
        Check.state("open", x, () -> x.lateness(1));
        x.cancel(1);
        Check.state("cancelled", x, () -> x.lateness(1));
        x.pickBatch();
        Check.state("done", x, () -> x.lateness(0));
        Check.same("the other one begins at 0 then", 2 + 2 + 2 - 30, x.lateness(2));
    }

    private static void promise43LateOrders() {
        PickHall x = threeZones();
        Check.same("orders 0 and 2", 5, x.lateOrders());
        x.setDue(0, 26);
        Check.same("in time", 4, x.lateOrders());
        x.setDue(0, 25);
        x.setDue(1, 0);
        Check.same("all", 7, x.lateOrders());
        x.dissolve(0);
        Check.same("batched ones only", 2, x.lateOrders());
    }

    private static void promise44TotalTardiness() {
        PickHall x = threeZones();
        Check.same("6 + 0 + 10", 16, x.totalTardiness());
        x.setDue(1, 0);
        Check.same("6 + 38 + 10", 54, x.totalTardiness());
        x.dissolve(2);
        Check.same("6 + 38", 44, x.totalTardiness());
        Check.same("without batches", 0, new PickHall().totalTardiness());
    }

    private static void mean(String what, PickHall x, int numerator, int denominator) {
        Check.same(what + ", numerator", numerator, x.meanTardinessNumerator());
        Check.same(what + ", denominator", denominator, x.meanTardinessDenominator());
    }

    private static void promise45And46Mean() {
        PickHall x = threeZones();
        mean("16 by 3", x, 16, 3);
        x.setDue(1, 0);
        mean("54 by 3", x, 18, 1);
        x.setDue(1, 9999);
        x.setDue(2, 9999);
        mean("6 by 3", x, 2, 1);
        x.dissolve(2);
        x.setDue(0, 21);
        mean("5 by 2", x, 5, 2);
        x.setDue(0, 9999);
        mean("0 by 2", x, 0, 1);
        x.dissolve(1);
        x.setDue(0, 21);
        mean("5 by 1", x, 5, 1);
        x.dissolve(0);
        mean("no batched orders", x, 0, 1);
        PickHall y = Texts.hall("hall 1 4 1; times 0 0; item 0 3 1 9; order 0 line 0 1; order 9 line 0 1;"
                + "order 9 line 0 1; order 9 line 0 1;");
        y.addBatch(15);
        mean("6 by 4", y, 3, 2);
    }
}
