/** All that the calls without effect tell about a hall, as one text. */
final class Snapshot {
    private Snapshot() {
    }

    static String of(PickHall x) {
        StringBuilder text = new StringBuilder();
        text.append("aisles ").append(x.aisleCount());
        text.append(" zones");
        for (int aisle = 0; aisle < x.aisleCount(); aisle++) {
            text.append(' ').append(x.zoneOf(aisle));
        }
        text.append(" stock");
        for (int item = 0; item < x.itemCount(); item++) {
            text.append(' ').append(x.stock(item));
        }
        for (int order = 0; order < x.orderCount(); order++) {
            addOrder(text, x, order);
        }
        for (int batch = 0; batch < x.batchCount(); batch++) {
            addBatch(text, x, batch);
        }
        addTotals(text, x);
        return text.toString();
    }

    private static void addOrder(StringBuilder text, PickHall x, int order) {
        text.append("\n order ").append(x.orderState(order)).append(' ').append(x.due(order));
        text.append(' ').append(x.orderWeight(order)).append(' ').append(x.orderAisles(order));
        text.append(' ').append(Check.outcome(() -> x.lateness(order)));
        for (int line = 0; line < x.lineCount(order); line++) {
            text.append(' ').append(x.pickedUnits(order, line)).append('-').append(x.shortUnits(order, line));
        }
    }

    private static void addBatch(StringBuilder text, PickHall x, int batch) {
        text.append("\n batch ").append(x.batchOrders(batch)).append(' ').append(x.batchWeight(batch));
        text.append(' ').append(x.batchRoute(batch)).append(' ').append(x.bestPolicy(batch));
        for (int zone = 0; zone <= x.zoneOf(x.aisleCount() - 1); zone++) {
            text.append(" zone");
            for (int policy = 0; policy <= 3; policy++) {
                text.append(' ').append(x.routeLength(batch, zone, policy));
            }
            text.append(" stops");
            for (int stop = 0; stop < x.stopCount(batch, zone); stop++) {
                text.append(' ').append(x.stopItem(batch, zone, stop));
            }
            text.append(" times ").append(x.workTime(batch, zone)).append(' ').append(x.startTime(batch, zone));
            text.append(' ').append(x.leaveTime(batch, zone));
        }
    }

    private static void addTotals(StringBuilder text, PickHall x) {
        text.append("\n totals");
        for (int zone = 0; zone <= x.zoneOf(x.aisleCount() - 1); zone++) {
            text.append(' ').append(x.blockedTime(zone));
        }
        text.append(' ').append(x.makespan()).append(' ').append(x.lateOrders());
        text.append(' ').append(x.totalTardiness()).append(' ').append(x.meanTardinessNumerator());
        text.append('/').append(x.meanTardinessDenominator()).append(' ').append(x.savedDistance());
        text.append(' ').append(x.totalOrdered()).append(' ').append(x.totalPicked());
        text.append(" error ").append(x.errorCode()).append(' ').append(x.errorPosition());
    }
}
