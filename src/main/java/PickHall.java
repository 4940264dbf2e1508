/** A planner for order picking in a warehouse: batches, routes, schedule, picking and setup texts. */
public final class PickHall {
    public static final int NONE = -1;

    private static final int MAX_AISLES = 6;
    private static final int MIN_DEPTH = 2;
    private static final int MAX_DEPTH = 20;
    private static final int MAX_WIDTH = 9;
    private static final int MAX_ITEMS = 24;
    private static final int MAX_WEIGHT = 50;
    private static final int MAX_STOCK = 999;
    private static final int MAX_ORDERS = 16;
    private static final int MAX_DUE = 9999;
    private static final int MAX_LINES = 6;
    private static final int MAX_QUANTITY = 99;
    private static final int MAX_BATCHES = 8;
    private static final int MAX_BATCH_ORDERS = 6;
    private static final int MAX_BATCH_WEIGHT = 99999;
    private static final int MAX_SEARCHED_BATCHES = 6;
    private static final int MAX_ZONES = 3;
    private static final int BUFFERS = 2;
    private static final int MAX_CAPACITY = 4;
    private static final int MAX_TIME = 99;
    private static final int MAX_TEXT = 600;
    private static final int SLOTS = 2;

    // Greater than every sum that is compared with it.
    private static final int NOTHING_YET = 1000000000;

    private static final int OPEN = 0;
    private static final int BATCHED = 1;
    private static final int DONE = 2;
    private static final int CANCELLED = 3;

    private static final int RETURN = 0;
    private static final int S_SHAPE = 1;
    private static final int LARGEST_GAP = 2;
    private static final int COMBINED = 3;

    private static final int SEED_EARLIEST = 0;
    private static final int SEED_HEAVIEST = 1;
    private static final int SEED_MOST_AISLES = 2;

    private static final int SORT_BY_DUE = 0;
    private static final int SORT_BY_WORK = 1;
    private static final int SORT_BY_SEARCH = 2;

    private final Hall hall;
    private final Hall draft;
    private final Hall[] saved;
    private final SetupReader reader;
    private final Route route;
    private final Schedule schedule;
    private final Moves moves;
    private final Sequence sequence;

    public PickHall() {
        hall = new Hall();
        draft = new Hall();
        saved = new Hall[SLOTS];
        reader = new SetupReader();
        route = new Route();
        schedule = new Schedule();
        moves = new Moves();
        sequence = new Sequence();
    }

    // ---- hall and items

    public int setLayout(int aisles, int depth, int width) throws IllegalArgumentException, IllegalStateException {
        needArgument(aisles, 1, MAX_AISLES);
        needArgument(depth, MIN_DEPTH, MAX_DEPTH);
        needArgument(width, 1, MAX_WIDTH);
        if (hall.items.count > 0) {
            throw new IllegalStateException("there are items");
        }
        hall.layout.build(aisles, depth, width);
        return aisles * depth;
    }

    public int aisleCount() {
        return hall.layout.aisles;
    }

    public int addItem(int aisle, int place, int weight, int stock)
            throws IndexOutOfBoundsException, IllegalArgumentException, IllegalStateException {
        needAisle(aisle);
        needIndex(place - 1, hall.layout.depth);
        needArgument(weight, 1, MAX_WEIGHT);
        needArgument(stock, 0, MAX_STOCK);
        if (hall.items.count >= MAX_ITEMS) {
            throw new IllegalStateException("there are 24 items");
        }
        return hall.items.append(aisle, place, weight, stock);
    }

    public int itemCount() {
        return hall.items.count;
    }

    public int stock(int item) throws IndexOutOfBoundsException {
        needItem(item);
        return hall.items.units[item];
    }

    public int restock(int item, int units) throws IndexOutOfBoundsException, IllegalArgumentException {
        needItem(item);
        needArgument(units, 1, MAX_STOCK - hall.items.units[item]);
        hall.items.units[item] += units;
        return hall.items.units[item];
    }

    // ---- orders

    public int addOrder(int due) throws IllegalArgumentException, IllegalStateException {
        needArgument(due, 0, MAX_DUE);
        needRoomForOrder();
        return hall.orders.append(due);
    }

    public int addLine(int order, int item, int quantity)
            throws IndexOutOfBoundsException, IllegalArgumentException, IllegalStateException {
        needOrder(order);
        needItem(item);
        needArgument(quantity, 1, MAX_QUANTITY);
        Orders orders = hall.orders;
        if (orders.state[order] != OPEN || orders.lines[order] >= MAX_LINES || orders.hasItem(order, item)) {
            throw new IllegalStateException("the order takes no such line");
        }
        return orders.appendLine(order, item, quantity);
    }

    public int orderCount() {
        return hall.orders.count;
    }

    public int orderState(int order) throws IndexOutOfBoundsException {
        needOrder(order);
        return hall.orders.state[order];
    }

    public int lineCount(int order) throws IndexOutOfBoundsException {
        needOrder(order);
        return hall.orders.lines[order];
    }

    public int due(int order) throws IndexOutOfBoundsException {
        needOrder(order);
        return hall.orders.dueTime[order];
    }

    public int setDue(int order, int due)
            throws IndexOutOfBoundsException, IllegalArgumentException, IllegalStateException {
        needOrder(order);
        needArgument(due, 0, MAX_DUE);
        needUnfinished(order);
        int previous = hall.orders.dueTime[order];
        hall.orders.dueTime[order] = due;
        return previous;
    }

    public int orderWeight(int order) throws IndexOutOfBoundsException {
        needOrder(order);
        return hall.weightOf(order);
    }

    public int orderAisles(int order) throws IndexOutOfBoundsException {
        needOrder(order);
        return hall.aislesOf(order);
    }

    public int cancel(int order) throws IndexOutOfBoundsException, IllegalStateException {
        needOrder(order);
        needUnfinished(order);
        hall.batches.takeOut(order);
        hall.orders.state[order] = CANCELLED;
        return hall.batches.count;
    }

    // ---- batches

    public int makeBatches(int orders, int weight, int rule) throws IllegalArgumentException {
        needBatchLimits(orders, weight);
        needArgument(rule, SEED_EARLIEST, SEED_MOST_AISLES);
        return Seeds.makeAll(hall, orders, weight, rule);
    }

    public int addBatch(int orders) throws IllegalArgumentException, IllegalStateException {
        if (orders == 0 || orders >> hall.orders.count != 0) {
            throw new IllegalArgumentException("no order, or an order that does not exist");
        }
        if (hall.batches.count >= MAX_BATCHES || !hall.canBeBatched(orders)) {
            throw new IllegalStateException("these orders can't be a batch now");
        }
        return hall.openBatch(orders);
    }

    public int dissolve(int batch) throws IndexOutOfBoundsException {
        needBatch(batch);
        hall.orders.setStates(hall.batches.members[batch], OPEN);
        hall.batches.drop(batch);
        return hall.batches.count;
    }

    public int batchCount() {
        return hall.batches.count;
    }

    public int batchOrders(int batch) throws IndexOutOfBoundsException {
        needBatch(batch);
        return hall.batches.members[batch];
    }

    public int batchWeight(int batch) throws IndexOutOfBoundsException {
        needBatch(batch);
        return hall.weightOfAll(hall.batches.members[batch]);
    }

    public int improve(int orders, int weight) throws IllegalArgumentException {
        needBatchLimits(orders, weight);
        return moves.makeAll(hall, orders, weight);
    }

    public int sortBatches(int rule) throws IllegalArgumentException, IllegalStateException {
        needArgument(rule, SORT_BY_DUE, SORT_BY_SEARCH);
        if (rule == SORT_BY_SEARCH && hall.batches.count > MAX_SEARCHED_BATCHES) {
            throw new IllegalStateException("there are more than 6 batches");
        }
        sequence.arrange(hall, rule);
        return tardinessNow();
    }

    // ---- zones and routes

    public int setPolicy(int policy) throws IllegalArgumentException {
        needArgument(policy, RETURN, COMBINED);
        int previous = hall.layout.policy;
        hall.layout.policy = policy;
        return previous;
    }

    public int setZones(int second, int third) throws IllegalArgumentException {
        int lastAisle = hall.layout.aisles - 1;
        if (second != NONE) {
            needArgument(second, 1, lastAisle);
        }
        if (third != NONE) {
            // With one zone only, no third one can follow: then the range is empty.
            needArgument(third, second == NONE ? MAX_AISLES : second + 1, lastAisle);
        }
        hall.layout.divide(second, third);
        return hall.layout.zones;
    }

    public int zoneOf(int aisle) throws IndexOutOfBoundsException {
        needAisle(aisle);
        return hall.layout.zoneWith(aisle);
    }

    public int setBuffer(int buffer, int capacity) throws IndexOutOfBoundsException, IllegalArgumentException {
        needIndex(buffer, BUFFERS);
        needArgument(capacity, 0, MAX_CAPACITY);
        int previous = hall.layout.capacity[buffer];
        hall.layout.capacity[buffer] = capacity;
        return previous;
    }

    public int setTimes(int setup, int perItem) throws IllegalArgumentException {
        needArgument(setup, 0, MAX_TIME);
        needArgument(perItem, 0, MAX_TIME);
        int previous = 100 * hall.layout.setupTime + hall.layout.itemTime;
        hall.layout.setupTime = setup;
        hall.layout.itemTime = perItem;
        return previous;
    }

    public int routeLength(int batch, int zone, int policy)
            throws IndexOutOfBoundsException, IllegalArgumentException {
        needBatch(batch);
        needZone(zone);
        needArgument(policy, RETURN, COMBINED);
        route.survey(hall, hall.batches.members[batch]);
        return route.lengthIn(hall.layout, zone, policy);
    }

    public int batchRoute(int batch) throws IndexOutOfBoundsException {
        needBatch(batch);
        return route.lengthFor(hall, hall.batches.members[batch], hall.layout.policy);
    }

    public int bestPolicy(int batch) throws IndexOutOfBoundsException {
        needBatch(batch);
        int members = hall.batches.members[batch];
        int best = RETURN;
        int least = route.lengthFor(hall, members, RETURN);
        for (int policy = S_SHAPE; policy <= COMBINED; policy++) {
            int length = route.lengthFor(hall, members, policy);
            if (length < least) {
                least = length;
                best = policy;
            }
        }
        return best;
    }

    public int stopCount(int batch, int zone) throws IndexOutOfBoundsException {
        needBatch(batch);
        needZone(zone);
        route.survey(hall, hall.batches.members[batch]);
        return route.itemsIn(hall.layout, zone);
    }

    public int stopItem(int batch, int zone, int stop) throws IndexOutOfBoundsException {
        needBatch(batch);
        needZone(zone);
        route.survey(hall, hall.batches.members[batch]);
        route.listStops(hall, zone);
        needIndex(stop, route.stops);
        return route.stop[stop];
    }

    public int savedDistance() {
        int difference = 0;
        for (int batch = 0; batch < hall.batches.count; batch++) {
            difference -= route.lengthFor(hall, hall.batches.members[batch], hall.layout.policy);
        }
        for (int order = 0; order < hall.orders.count; order++) {
            if (hall.orders.state[order] == BATCHED) {
                difference += route.lengthFor(hall, 1 << order, hall.layout.policy);
            }
        }
        return difference;
    }

    // ---- schedule

    public int workTime(int batch, int zone) throws IndexOutOfBoundsException {
        needBatch(batch);
        needZone(zone);
        schedule.measureWork(hall);
        return schedule.work[batch][zone];
    }

    public int startTime(int batch, int zone) throws IndexOutOfBoundsException {
        needBatch(batch);
        needZone(zone);
        schedule.runAll(hall);
        return schedule.start[batch][zone];
    }

    public int leaveTime(int batch, int zone) throws IndexOutOfBoundsException {
        needBatch(batch);
        needZone(zone);
        schedule.runAll(hall);
        return schedule.leave[batch][zone];
    }

    public int blockedTime(int zone) throws IndexOutOfBoundsException {
        needZone(zone);
        schedule.runAll(hall);
        int blocked = 0;
        for (int batch = 0; batch < hall.batches.count; batch++) {
            blocked += schedule.leave[batch][zone] - schedule.start[batch][zone] - schedule.work[batch][zone];
        }
        return blocked;
    }

    public int makespan() {
        if (hall.batches.count == 0) {
            return 0;
        }
        schedule.runAll(hall);
        return schedule.completion(hall.layout, hall.batches.count - 1);
    }

    public int lateness(int order) throws IndexOutOfBoundsException, IllegalStateException {
        needOrder(order);
        int batch = hall.batches.batchWith(order);
        if (batch == NONE) {
            throw new IllegalStateException("the order is not batched");
        }
        schedule.runAll(hall);
        return schedule.completion(hall.layout, batch) - hall.orders.dueTime[order];
    }

    public int lateOrders() {
        schedule.runAll(hall);
        int late = 0;
        for (int batch = 0; batch < hall.batches.count; batch++) {
            late |= hall.orders.dueBefore(hall.batches.members[batch], schedule.completion(hall.layout, batch));
        }
        return late;
    }

    public int totalTardiness() {
        return tardinessNow();
    }

    public int meanTardinessNumerator() {
        int total = tardinessNow();
        return total / commonDivisor(total, batchedOrders());
    }

    public int meanTardinessDenominator() {
        return batchedOrders() / commonDivisor(tardinessNow(), batchedOrders());
    }

    // ---- picking

    public int pickBatch() throws IllegalStateException {
        if (hall.batches.count == 0) {
            throw new IllegalStateException("there are no batches");
        }
        return hall.pickFirstBatch();
    }

    public int pickedUnits(int order, int line) throws IndexOutOfBoundsException {
        needLine(order, line);
        return hall.orders.pickedIn(order, line);
    }

    public int shortUnits(int order, int line) throws IndexOutOfBoundsException {
        needLine(order, line);
        return hall.orders.shortIn(order, line);
    }

    public int totalOrdered() {
        return hall.orders.pickedOfDone() + hall.orders.shortOfDone();
    }

    public int totalPicked() {
        return hall.orders.pickedOfDone();
    }

    public int reorder(int order, int due)
            throws IndexOutOfBoundsException, IllegalArgumentException, IllegalStateException {
        needOrder(order);
        needArgument(due, 0, MAX_DUE);
        if (!hall.orders.canBeRepeated(order)) {
            throw new IllegalStateException("there is nothing to order again");
        }
        needRoomForOrder();
        return hall.orders.repeatShort(order, due);
    }

    // ---- setup texts

    public int appendText(int fourBytes) throws IllegalStateException {
        if (reader.length + 4 > MAX_TEXT) {
            throw new IllegalStateException("the text would be longer than 600 bytes");
        }
        for (int shift = 24; shift >= 0; shift -= 8) {
            reader.append((byte) (fourBytes >> shift));
        }
        return reader.length;
    }

    public int truncateText(int length) throws IllegalArgumentException {
        needArgument(length, 0, reader.length);
        reader.length = length;
        return length;
    }

    public int load() {
        boolean correct = reader.readInto(draft);
        reader.length = 0;
        if (!correct) {
            return NONE;
        }
        hall.copyFrom(draft);
        return hall.orders.count;
    }

    public int errorCode() {
        return reader.faultCode;
    }

    public int errorPosition() {
        return reader.faultPosition;
    }

    // ---- saved states

    public void save(int slot) throws IllegalArgumentException {
        needArgument(slot, 0, SLOTS - 1);
        Hall kept = saved[slot];
        if (kept == null) {
            kept = new Hall();
            saved[slot] = kept;
        }
        kept.copyFrom(hall);
    }

    public void restore(int slot) throws IllegalArgumentException, IllegalStateException {
        needArgument(slot, 0, SLOTS - 1);
        Hall kept = saved[slot];
        if (kept == null) {
            throw new IllegalStateException("nothing is saved there");
        }
        hall.copyFrom(kept);
    }

    // ---- what the calls above have in common

    private static void needArgument(int value, int low, int high) {
        if (value < low || value > high) {
            throw new IllegalArgumentException("an argument is out of range");
        }
    }

    private static void needIndex(int index, int count) {
        if (index < 0 || index >= count) {
            throw new IndexOutOfBoundsException("there is no such number");
        }
    }

    private void needAisle(int aisle) {
        needIndex(aisle, hall.layout.aisles);
    }

    private void needZone(int zone) {
        needIndex(zone, hall.layout.zones);
    }

    private void needItem(int item) {
        needIndex(item, hall.items.count);
    }

    private void needOrder(int order) {
        needIndex(order, hall.orders.count);
    }

    private void needLine(int order, int line) {
        needOrder(order);
        needIndex(line, hall.orders.lines[order]);
    }

    private void needBatch(int batch) {
        needIndex(batch, hall.batches.count);
    }

    private static void needBatchLimits(int orders, int weight) {
        needArgument(orders, 1, MAX_BATCH_ORDERS);
        needArgument(weight, 1, MAX_BATCH_WEIGHT);
    }

    private void needUnfinished(int order) {
        if (hall.orders.state[order] == DONE || hall.orders.state[order] == CANCELLED) {
            throw new IllegalStateException("the order is done or cancelled");
        }
    }

    private void needRoomForOrder() {
        if (hall.orders.count >= MAX_ORDERS) {
            throw new IllegalStateException("there are 16 orders");
        }
    }

    private int tardinessNow() {
        schedule.runAll(hall);
        int total = 0;
        for (int batch = 0; batch < hall.batches.count; batch++) {
            total += hall.tardinessOf(batch, schedule.completion(hall.layout, batch));
        }
        return total;
    }

    /** At least 1, so that the mean of no orders is 0 / 1. */
    private int batchedOrders() {
        return Math.max(1, hall.orders.countIn(BATCHED));
    }

    /** At least 1, so that it can always divide. */
    private static int commonDivisor(int first, int second) {
        int larger = first;
        int smaller = second;
        // The remainders of ints reach 0 within 47 steps.
        for (int step = 0; step < 64 && smaller > 0; step++) {
            int rest = larger % smaller;
            larger = smaller;
            smaller = rest;
        }
        return Math.max(1, larger);
    }

    /** The measures of the hall, its zones, and the policy, times and buffers in force. */
    private static final class Layout {
        int aisles;
        int depth;
        int width;
        int zones;
        final int[] zoneFirst = new int[MAX_ZONES];
        int policy;
        int setupTime;
        int itemTime;
        final int[] capacity = new int[BUFFERS];

        void reset() {
            build(4, 10, 2);
            policy = RETURN;
            setupTime = 0;
            itemTime = 1;
            capacity[0] = 1;
            capacity[1] = 1;
        }

        void build(int newAisles, int newDepth, int newWidth) {
            aisles = newAisles;
            depth = newDepth;
            width = newWidth;
            divide(NONE, NONE);
        }

        void divide(int second, int third) {
            zones = second == NONE ? 1 : third == NONE ? 2 : MAX_ZONES;
            zoneFirst[0] = 0;
            zoneFirst[1] = second;
            zoneFirst[2] = third;
        }

        int endOf(int zone) {
            return zone + 1 < zones ? zoneFirst[zone + 1] : aisles;
        }

        int zoneWith(int aisle) {
            int zone = 0;
            for (int next = 1; next < zones; next++) {
                if (aisle >= zoneFirst[next]) {
                    zone = next;
                }
            }
            return zone;
        }

        void copyFrom(Layout other) {
            aisles = other.aisles;
            depth = other.depth;
            width = other.width;
            zones = other.zones;
            System.arraycopy(other.zoneFirst, 0, zoneFirst, 0, MAX_ZONES);
            policy = other.policy;
            setupTime = other.setupTime;
            itemTime = other.itemTime;
            System.arraycopy(other.capacity, 0, capacity, 0, BUFFERS);
        }
    }

    private static final class Items {
        int count;
        final int[] aisle = new int[MAX_ITEMS];
        final int[] place = new int[MAX_ITEMS];
        final int[] weight = new int[MAX_ITEMS];
        final int[] units = new int[MAX_ITEMS];

        int append(int itsAisle, int itsPlace, int itsWeight, int itsUnits) {
            int item = count;
            aisle[item] = itsAisle;
            place[item] = itsPlace;
            weight[item] = itsWeight;
            units[item] = itsUnits;
            count++;
            return item;
        }

        void copyFrom(Items other) {
            count = other.count;
            System.arraycopy(other.aisle, 0, aisle, 0, MAX_ITEMS);
            System.arraycopy(other.place, 0, place, 0, MAX_ITEMS);
            System.arraycopy(other.weight, 0, weight, 0, MAX_ITEMS);
            System.arraycopy(other.units, 0, units, 0, MAX_ITEMS);
        }
    }

    /** The orders; line k of order n stands at n * MAX_LINES + k in the rows of lines. */
    private static final class Orders {
        int count;
        int repeated;
        final int[] dueTime = new int[MAX_ORDERS];
        final int[] state = new int[MAX_ORDERS];
        final int[] lines = new int[MAX_ORDERS];
        final int[] lineItem = new int[MAX_ORDERS * MAX_LINES];
        final int[] lineQuantity = new int[MAX_ORDERS * MAX_LINES];
        final int[] linePicked = new int[MAX_ORDERS * MAX_LINES];

        int append(int itsDue) {
            int order = count;
            dueTime[order] = itsDue;
            state[order] = OPEN;
            lines[order] = 0;
            count++;
            return order;
        }

        int appendLine(int order, int item, int quantity) {
            int line = lines[order];
            int at = order * MAX_LINES + line;
            lineItem[at] = item;
            lineQuantity[at] = quantity;
            linePicked[at] = 0;
            lines[order]++;
            return line;
        }

        boolean hasItem(int order, int item) {
            for (int line = 0; line < lines[order]; line++) {
                if (lineItem[order * MAX_LINES + line] == item) {
                    return true;
                }
            }
            return false;
        }

        void setStates(int orders, int newState) {
            for (int order = 0; order < count; order++) {
                if ((orders >> order & 1) != 0) {
                    state[order] = newState;
                }
            }
        }

        int countIn(int wanted) {
            int found = 0;
            for (int order = 0; order < count; order++) {
                if (state[order] == wanted) {
                    found++;
                }
            }
            return found;
        }

        int dueBefore(int orders, int time) {
            int late = 0;
            for (int order = 0; order < count; order++) {
                if ((orders >> order & 1) != 0 && dueTime[order] < time) {
                    late |= 1 << order;
                }
            }
            return late;
        }

        int pickedIn(int order, int line) {
            return state[order] == DONE ? linePicked[order * MAX_LINES + line] : 0;
        }

        int shortIn(int order, int line) {
            int at = order * MAX_LINES + line;
            return state[order] == DONE ? lineQuantity[at] - linePicked[at] : 0;
        }

        private int shortInAll(int order) {
            int units = 0;
            for (int line = 0; line < lines[order]; line++) {
                units += shortIn(order, line);
            }
            return units;
        }

        int shortOfDone() {
            int units = 0;
            for (int order = 0; order < count; order++) {
                units += shortInAll(order);
            }
            return units;
        }

        int pickedOfDone() {
            int units = 0;
            for (int order = 0; order < count; order++) {
                for (int line = 0; line < lines[order]; line++) {
                    units += pickedIn(order, line);
                }
            }
            return units;
        }

        boolean canBeRepeated(int order) {
            return (repeated >> order & 1) == 0 && shortInAll(order) > 0;
        }

        int repeatShort(int order, int itsDue) {
            int copy = append(itsDue);
            for (int line = 0; line < lines[order]; line++) {
                int units = shortIn(order, line);
                if (units > 0) {
                    appendLine(copy, lineItem[order * MAX_LINES + line], units);
                }
            }
            repeated |= 1 << order;
            return copy;
        }

        void copyFrom(Orders other) {
            count = other.count;
            repeated = other.repeated;
            System.arraycopy(other.dueTime, 0, dueTime, 0, MAX_ORDERS);
            System.arraycopy(other.state, 0, state, 0, MAX_ORDERS);
            System.arraycopy(other.lines, 0, lines, 0, MAX_ORDERS);
            System.arraycopy(other.lineItem, 0, lineItem, 0, MAX_ORDERS * MAX_LINES);
            System.arraycopy(other.lineQuantity, 0, lineQuantity, 0, MAX_ORDERS * MAX_LINES);
            System.arraycopy(other.linePicked, 0, linePicked, 0, MAX_ORDERS * MAX_LINES);
        }
    }

    /** The batches in their sequence, each as the bit mask of its orders. */
    private static final class Batches {
        int count;
        final int[] members = new int[MAX_BATCHES];

        int append(int orders) {
            int batch = count;
            members[batch] = orders;
            count++;
            return batch;
        }

        void drop(int batch) {
            for (int next = batch + 1; next < count; next++) {
                members[next - 1] = members[next];
            }
            count--;
        }

        int batchWith(int order) {
            for (int batch = 0; batch < count; batch++) {
                if ((members[batch] >> order & 1) != 0) {
                    return batch;
                }
            }
            return NONE;
        }

        void takeOut(int order) {
            int batch = batchWith(order);
            if (batch != NONE) {
                takeFrom(batch, order);
            }
        }

        void move(int order, int target) {
            int source = batchWith(order);
            members[target] |= 1 << order;
            if (source != NONE && source != target) {
                takeFrom(source, order);
            }
        }

        private void takeFrom(int batch, int order) {
            members[batch] &= ~(1 << order);
            if (members[batch] == 0) {
                drop(batch);
            }
        }

        void copyFrom(Batches other) {
            count = other.count;
            System.arraycopy(other.members, 0, members, 0, MAX_BATCHES);
        }
    }

    /** Everything that is saved and that a setup replaces. */
    private static final class Hall {
        final Layout layout;
        final Items items;
        final Orders orders;
        final Batches batches;

        Hall() {
            layout = new Layout();
            items = new Items();
            orders = new Orders();
            batches = new Batches();
            layout.reset();
        }

        void reset() {
            layout.reset();
            items.count = 0;
            orders.count = 0;
            orders.repeated = 0;
            batches.count = 0;
        }

        void copyFrom(Hall other) {
            layout.copyFrom(other.layout);
            items.copyFrom(other.items);
            orders.copyFrom(other.orders);
            batches.copyFrom(other.batches);
        }

        int weightOf(int order) {
            int weight = 0;
            for (int line = 0; line < orders.lines[order]; line++) {
                int at = order * MAX_LINES + line;
                weight += orders.lineQuantity[at] * items.weight[orders.lineItem[at]];
            }
            return weight;
        }

        int weightOfAll(int members) {
            int weight = 0;
            for (int order = 0; order < orders.count; order++) {
                if ((members >> order & 1) != 0) {
                    weight += weightOf(order);
                }
            }
            return weight;
        }

        int aislesOf(int order) {
            int aisles = 0;
            for (int line = 0; line < orders.lines[order]; line++) {
                aisles |= 1 << items.aisle[orders.lineItem[order * MAX_LINES + line]];
            }
            return aisles;
        }

        int itemsOfAll(int members) {
            int found = 0;
            for (int order = 0; order < orders.count; order++) {
                if ((members >> order & 1) != 0) {
                    for (int line = 0; line < orders.lines[order]; line++) {
                        found |= 1 << orders.lineItem[order * MAX_LINES + line];
                    }
                }
            }
            return found;
        }

        boolean canBeBatched(int members) {
            for (int order = 0; order < orders.count; order++) {
                boolean ready = orders.state[order] == OPEN && orders.lines[order] > 0;
                if ((members >> order & 1) != 0 && !ready) {
                    return false;
                }
            }
            return true;
        }

        int openBatch(int members) {
            orders.setStates(members, BATCHED);
            return batches.append(members);
        }

        int earliestDue(int batch) {
            int earliest = MAX_DUE;
            for (int order = 0; order < orders.count; order++) {
                if ((batches.members[batch] >> order & 1) != 0) {
                    earliest = Math.min(earliest, orders.dueTime[order]);
                }
            }
            return earliest;
        }

        int tardinessOf(int batch, int completion) {
            int total = 0;
            for (int order = 0; order < orders.count; order++) {
                if ((batches.members[batch] >> order & 1) != 0) {
                    total += Math.max(0, completion - orders.dueTime[order]);
                }
            }
            return total;
        }

        int pickFirstBatch() {
            int members = batches.members[0];
            int units = 0;
            for (int order = 0; order < orders.count; order++) {
                if ((members >> order & 1) != 0) {
                    units += serve(order);
                }
            }
            orders.setStates(members, DONE);
            batches.drop(0);
            return units;
        }

        private int serve(int order) {
            int units = 0;
            for (int line = 0; line < orders.lines[order]; line++) {
                int at = order * MAX_LINES + line;
                int item = orders.lineItem[at];
                int picked = Math.min(orders.lineQuantity[at], items.units[item]);
                items.units[item] -= picked;
                orders.linePicked[at] = picked;
                units += picked;
            }
            return units;
        }
    }

    /** The routes of one set of orders; survey comes first, the other calls are about what it found. */
    private static final class Route {
        private static final int FRONT = 0;
        private static final int BACK = 1;
        private static final int UNREACHABLE = 1000000;

        private int itemSet;
        private int aisleLength;
        private final int[] places = new int[MAX_AISLES];
        private final int[] lowest = new int[MAX_AISLES];
        private final int[] highest = new int[MAX_AISLES];
        private final int[] itemsAt = new int[MAX_AISLES];

        private int visitedAisles;
        private final int[] visited = new int[MAX_AISLES];

        private int gapStart;
        private int gapSize;
        private final int[] fromFront = new int[MAX_AISLES + 1];
        private final int[] fromBack = new int[MAX_AISLES + 1];

        int stops;
        final int[] stop = new int[MAX_ITEMS];

        void survey(Hall hall, int orders) {
            itemSet = hall.itemsOfAll(orders);
            aisleLength = hall.layout.depth + 1;
            for (int aisle = 0; aisle < MAX_AISLES; aisle++) {
                places[aisle] = 0;
                itemsAt[aisle] = 0;
                lowest[aisle] = MAX_DEPTH;
                highest[aisle] = 0;
            }
            for (int item = 0; item < hall.items.count; item++) {
                if ((itemSet >> item & 1) != 0) {
                    note(hall.items.aisle[item], hall.items.place[item]);
                }
            }
        }

        private void note(int aisle, int place) {
            places[aisle] |= 1 << place;
            itemsAt[aisle]++;
            lowest[aisle] = Math.min(lowest[aisle], place);
            highest[aisle] = Math.max(highest[aisle], place);
        }

        int lengthFor(Hall hall, int orders, int policy) {
            survey(hall, orders);
            int length = 0;
            for (int zone = 0; zone < hall.layout.zones; zone++) {
                length += lengthIn(hall.layout, zone, policy);
            }
            return length;
        }

        int itemsIn(Layout layout, int zone) {
            int found = 0;
            for (int aisle = layout.zoneFirst[zone]; aisle < layout.endOf(zone); aisle++) {
                found += itemsAt[aisle];
            }
            return found;
        }

        int lengthIn(Layout layout, int zone, int policy) {
            findAisles(layout, zone);
            if (visitedAisles == 0) {
                return 0;
            }
            int lastAisle = visited[visitedAisles - 1];
            int walk = 2 * layout.width * (lastAisle - layout.zoneFirst[zone]);
            switch (policy) {
                case S_SHAPE:
                    return walk + sShapeCost();
                case LARGEST_GAP:
                    return walk + largestGapCost();
                case COMBINED:
                    planCombined();
                    return walk + fromFront[0];
                default:
                    return walk + returnCost();
            }
        }

        private void findAisles(Layout layout, int zone) {
            visitedAisles = 0;
            for (int aisle = layout.zoneFirst[zone]; aisle < layout.endOf(zone); aisle++) {
                if (places[aisle] != 0) {
                    visited[visitedAisles] = aisle;
                    visitedAisles++;
                }
            }
        }

        private int returnCost() {
            int cost = 0;
            for (int k = 0; k < visitedAisles; k++) {
                cost += 2 * highest[visited[k]];
            }
            return cost;
        }

        private int sShapeCost() {
            if (visitedAisles % 2 == 0) {
                return visitedAisles * aisleLength;
            }
            return (visitedAisles - 1) * aisleLength + 2 * highest[visited[visitedAisles - 1]];
        }

        private int largestGapCost() {
            if (visitedAisles < 2) {
                return returnCost();
            }
            int cost = 2 * aisleLength;
            for (int k = 1; k < visitedAisles - 1; k++) {
                findLargestGap(visited[k]);
                cost += 2 * (aisleLength - gapSize);
            }
            return cost;
        }

        private void findLargestGap(int aisle) {
            gapStart = 0;
            gapSize = 0;
            int previous = 0;
            for (int place = 1; place <= aisleLength; place++) {
                boolean ends = place == aisleLength || (places[aisle] >> place & 1) != 0;
                if (ends && place - previous > gapSize) {
                    gapStart = previous;
                    gapSize = place - previous;
                }
                if (ends) {
                    previous = place;
                }
            }
        }

        /** Plans backwards: fromFront[k] is the least cost of the aisles from k on if the picker stands in front. */
        private void planCombined() {
            fromFront[visitedAisles] = 0;
            fromBack[visitedAisles] = UNREACHABLE;
            for (int k = visitedAisles - 1; k >= 0; k--) {
                fromFront[k] = Math.min(stayingCost(k, FRONT), crossingCost(k, FRONT));
                fromBack[k] = Math.min(stayingCost(k, BACK), crossingCost(k, BACK));
            }
        }

        private int stayingCost(int k, int end) {
            int aisle = visited[k];
            if (end == FRONT) {
                return 2 * highest[aisle] + fromFront[k + 1];
            }
            return 2 * (aisleLength - lowest[aisle]) + fromBack[k + 1];
        }

        private int crossingCost(int k, int end) {
            return aisleLength + (end == FRONT ? fromBack[k + 1] : fromFront[k + 1]);
        }

        void listStops(Hall hall, int zone) {
            Layout layout = hall.layout;
            findAisles(layout, zone);
            stops = 0;
            switch (layout.policy) {
                case S_SHAPE:
                    listSShape(hall);
                    break;
                case LARGEST_GAP:
                    listLargestGap(hall);
                    break;
                case COMBINED:
                    planCombined();
                    listCombined(hall);
                    break;
                default:
                    listReturn(hall);
                    break;
            }
        }

        private void listReturn(Hall hall) {
            for (int k = 0; k < visitedAisles; k++) {
                visitUp(hall, visited[k], MAX_DEPTH);
            }
        }

        private void listSShape(Hall hall) {
            for (int k = 0; k < visitedAisles; k++) {
                visitFrom(hall, visited[k], k % 2 == 0 ? FRONT : BACK);
            }
        }

        private void listLargestGap(Hall hall) {
            if (visitedAisles < 2) {
                listReturn(hall);
                return;
            }
            visitFrom(hall, visited[0], FRONT);
            for (int k = 1; k < visitedAisles - 1; k++) {
                findLargestGap(visited[k]);
                visitDown(hall, visited[k], gapStart + 1);
            }
            visitFrom(hall, visited[visitedAisles - 1], BACK);
            for (int k = visitedAisles - 2; k >= 1; k--) {
                findLargestGap(visited[k]);
                visitUp(hall, visited[k], gapStart);
            }
        }

        private void listCombined(Hall hall) {
            int end = FRONT;
            for (int k = 0; k < visitedAisles; k++) {
                visitFrom(hall, visited[k], end);
                if (crossingCost(k, end) < stayingCost(k, end)) {
                    end = end == FRONT ? BACK : FRONT;
                }
            }
        }

        /** The end where the picker enters gives the order of the places, whether the aisle is crossed or not. */
        private void visitFrom(Hall hall, int aisle, int end) {
            if (end == FRONT) {
                visitUp(hall, aisle, MAX_DEPTH);
            } else {
                visitDown(hall, aisle, 1);
            }
        }

        private void visitUp(Hall hall, int aisle, int lastPlace) {
            for (int place = 1; place <= lastPlace; place++) {
                visitPlace(hall, aisle, place);
            }
        }

        private void visitDown(Hall hall, int aisle, int lastPlace) {
            for (int place = MAX_DEPTH; place >= lastPlace; place--) {
                visitPlace(hall, aisle, place);
            }
        }

        private void visitPlace(Hall hall, int aisle, int place) {
            if ((places[aisle] >> place & 1) == 0) {
                return;
            }
            Items items = hall.items;
            for (int item = 0; item < items.count; item++) {
                boolean wanted = (itemSet >> item & 1) != 0;
                if (wanted && items.aisle[item] == aisle && items.place[item] == place && stops < MAX_ITEMS) {
                    stop[stops] = item;
                    stops++;
                }
            }
        }
    }

    /** Work times by batch and zone; start and leave times by position in the sequence and zone. */
    private static final class Schedule {
        final int[][] work = new int[MAX_BATCHES][MAX_ZONES];
        final int[][] start = new int[MAX_BATCHES][MAX_ZONES];
        final int[][] leave = new int[MAX_BATCHES][MAX_ZONES];
        private final Route route = new Route();

        void measureWork(Hall hall) {
            Layout layout = hall.layout;
            for (int batch = 0; batch < hall.batches.count; batch++) {
                route.survey(hall, hall.batches.members[batch]);
                for (int zone = 0; zone < layout.zones; zone++) {
                    int stops = route.itemsIn(layout, zone);
                    int length = route.lengthIn(layout, zone, layout.policy);
                    work[batch][zone] = stops == 0 ? 0 : layout.setupTime + length + layout.itemTime * stops;
                }
            }
        }

        int workInAll(Layout layout, int batch) {
            int total = 0;
            for (int zone = 0; zone < layout.zones; zone++) {
                total += work[batch][zone];
            }
            return total;
        }

        void runAll(Hall hall) {
            measureWork(hall);
            for (int batch = 0; batch < hall.batches.count; batch++) {
                run(hall.layout, batch, batch);
            }
        }

        /** Needs the positions before it only, so a sequence can be tried batch by batch. */
        void run(Layout layout, int position, int batch) {
            int arrival = 0;
            for (int zone = 0; zone < layout.zones; zone++) {
                int pickerFree = position == 0 ? 0 : leave[position - 1][zone];
                start[position][zone] = Math.max(arrival, pickerFree);
                int ready = start[position][zone] + work[batch][zone];
                leave[position][zone] = Math.max(ready, exitOpens(layout, position, zone));
                arrival = leave[position][zone];
            }
        }

        private int exitOpens(Layout layout, int position, int zone) {
            if (zone + 1 >= layout.zones) {
                return 0;
            }
            int capacity = layout.capacity[zone];
            if (capacity == 0) {
                return position == 0 ? 0 : leave[position - 1][zone + 1];
            }
            return position < capacity ? 0 : start[position - capacity][zone + 1];
        }

        int completion(Layout layout, int position) {
            return leave[position][layout.zones - 1];
        }
    }

    /** Makes batches by seeds. */
    private static final class Seeds {
        static int makeAll(Hall hall, int orders, int weight, int rule) {
            int candidates = candidatesIn(hall, weight);
            int made = 0;
            while (made < MAX_BATCHES && candidates != 0 && hall.batches.count < MAX_BATCHES) {
                int members = 1 << seedAmong(hall, candidates, rule);
                for (int size = 1; size < orders; size++) {
                    members |= companionFor(hall, members, candidates & ~members, weight);
                }
                candidates &= ~members;
                hall.openBatch(members);
                made++;
            }
            return made;
        }

        private static int candidatesIn(Hall hall, int weight) {
            int candidates = 0;
            for (int order = 0; order < hall.orders.count; order++) {
                if (hall.canBeBatched(1 << order) && hall.weightOf(order) <= weight) {
                    candidates |= 1 << order;
                }
            }
            return candidates;
        }

        private static int seedAmong(Hall hall, int candidates, int rule) {
            int seed = 0;
            int best = -MAX_DUE - 1;
            for (int order = 0; order < hall.orders.count; order++) {
                if ((candidates >> order & 1) != 0 && seedValue(hall, order, rule) > best) {
                    best = seedValue(hall, order, rule);
                    seed = order;
                }
            }
            return seed;
        }

        private static int seedValue(Hall hall, int order, int rule) {
            if (rule == SEED_HEAVIEST) {
                return hall.weightOf(order);
            }
            if (rule == SEED_MOST_AISLES) {
                return Integer.bitCount(hall.aislesOf(order));
            }
            return -hall.orders.dueTime[order];
        }

        /** The mask of one order, or 0 if none fits. */
        private static int companionFor(Hall hall, int members, int candidates, int weight) {
            int aisles = 0;
            for (int order = 0; order < hall.orders.count; order++) {
                if ((members >> order & 1) != 0) {
                    aisles |= hall.aislesOf(order);
                }
            }
            int room = weight - hall.weightOfAll(members);
            int companion = 0;
            int least = NOTHING_YET;
            for (int order = 0; order < hall.orders.count; order++) {
                if ((candidates >> order & 1) != 0 && hall.weightOf(order) <= room) {
                    int newAisles = Integer.bitCount(hall.aislesOf(order) & ~aisles);
                    int value = newAisles * (MAX_DUE + 1) + hall.orders.dueTime[order];
                    if (value < least) {
                        least = value;
                        companion = 1 << order;
                    }
                }
            }
            return companion;
        }
    }

    /** Moves orders between batches as long as the routes become shorter. */
    private static final class Moves {
        // Each move shortens the routes, and those of 8 batches are never longer than 8 * (90 + 6 * 42) together.
        private static final int ENOUGH = 10000;

        private final Route route = new Route();
        private final int[] length = new int[MAX_BATCHES];
        private int bestDecrease;
        private int bestOrder;
        private int bestBatch;

        int makeAll(Hall hall, int orders, int weight) {
            for (int made = 0; made < ENOUGH; made++) {
                measureBatches(hall);
                bestDecrease = 0;
                for (int order = 0; order < hall.orders.count; order++) {
                    tryMoves(hall, order, orders, weight);
                }
                if (bestDecrease == 0) {
                    return made;
                }
                hall.batches.move(bestOrder, bestBatch);
            }
            return ENOUGH;
        }

        private void measureBatches(Hall hall) {
            for (int batch = 0; batch < hall.batches.count; batch++) {
                length[batch] = route.lengthFor(hall, hall.batches.members[batch], hall.layout.policy);
            }
        }

        private void tryMoves(Hall hall, int order, int orders, int weight) {
            int source = hall.batches.batchWith(order);
            if (source == NONE) {
                return;
            }
            int rest = hall.batches.members[source] & ~(1 << order);
            int gain = length[source] - route.lengthFor(hall, rest, hall.layout.policy);
            for (int batch = 0; batch < hall.batches.count; batch++) {
                int joined = hall.batches.members[batch] | 1 << order;
                boolean fits = Integer.bitCount(joined) <= orders && hall.weightOfAll(joined) <= weight;
                if (batch != source && fits) {
                    int loss = route.lengthFor(hall, joined, hall.layout.policy) - length[batch];
                    keepBetter(gain - loss, order, batch);
                }
            }
        }

        /** Orders and batches are tried by ascending numbers, so an equal decrease found later loses. */
        private void keepBetter(int decrease, int order, int batch) {
            if (decrease > bestDecrease) {
                bestDecrease = decrease;
                bestOrder = order;
                bestBatch = batch;
            }
        }
    }

    /** Brings the batches into another sequence. */
    private static final class Sequence {
        private final Schedule schedule = new Schedule();
        private final int[] key = new int[MAX_BATCHES];
        private final int[] tried = new int[MAX_BATCHES];
        private final int[] chosen = new int[MAX_BATCHES];
        private final int[] members = new int[MAX_BATCHES];
        private int least;

        void arrange(Hall hall, int rule) {
            schedule.measureWork(hall);
            if (rule == SORT_BY_SEARCH) {
                least = NOTHING_YET;
                search(hall, 0, 0, 0);
            } else {
                fillKeys(hall, rule);
                sortByKeys(hall.batches.count);
            }
            applyTo(hall.batches);
        }

        private void fillKeys(Hall hall, int rule) {
            for (int batch = 0; batch < hall.batches.count; batch++) {
                key[batch] = rule == SORT_BY_WORK
                        ? schedule.workInAll(hall.layout, batch)
                        : hall.earliestDue(batch);
            }
        }

        private void sortByKeys(int count) {
            for (int batch = 0; batch < count; batch++) {
                int at = batch;
                while (at > 0 && key[chosen[at - 1]] > key[batch]) {
                    chosen[at] = chosen[at - 1];
                    at--;
                }
                chosen[at] = batch;
            }
        }

        /** Tries the sequences in lexicographic order, so only a smaller sum replaces the one found first. */
        private void search(Hall hall, int depth, int used, int tardiness) {
            if (depth >= MAX_SEARCHED_BATCHES || depth >= hall.batches.count) {
                least = tardiness;
                System.arraycopy(tried, 0, chosen, 0, MAX_BATCHES);
                return;
            }
            for (int batch = 0; batch < hall.batches.count; batch++) {
                if ((used >> batch & 1) == 0) {
                    tried[depth] = batch;
                    schedule.run(hall.layout, depth, batch);
                    int total = tardiness + hall.tardinessOf(batch, schedule.completion(hall.layout, depth));
                    // Later batches never take tardiness away, so a sum that is not smaller now can't win.
                    if (total < least) {
                        search(hall, depth + 1, used | 1 << batch, total);
                    }
                }
            }
        }

        private void applyTo(Batches batches) {
            System.arraycopy(batches.members, 0, members, 0, MAX_BATCHES);
            for (int position = 0; position < batches.count; position++) {
                batches.members[position] = members[chosen[position]];
            }
        }
    }

    /** The text buffer and the parser of setups. */
    private static final class SetupReader {
        private static final int END = 0;
        private static final int WORD = 1;
        private static final int NUMBER = 2;
        private static final int SEMICOLON = 3;
        private static final int STRANGE = 4;

        private static final int NOT_ALLOWED = 1;
        private static final int OUT_OF_RANGE = 2;
        private static final int TOO_MANY = 3;

        // Above every range of the document, so the digits behind it need not be counted in.
        private static final int HUGE = 100000;

        private final byte[] text = new byte[MAX_TEXT];
        int length;
        int faultCode;
        int faultPosition = NONE;

        private int kind;
        private int first;
        private int behind;
        private int value;

        void append(byte one) {
            text[length] = one;
            length++;
        }

        boolean readInto(Hall hall) {
            faultCode = 0;
            faultPosition = NONE;
            behind = 0;
            hall.reset();
            if (!readHall(hall.layout)) {
                return false;
            }
            for (int statement = 0; statement <= MAX_TEXT; statement++) {
                nextToken();
                if (kind == END) {
                    return true;
                }
                if (!readStatement(hall)) {
                    return false;
                }
            }
            return false;
        }

        private boolean fail(int code) {
            faultCode = code;
            faultPosition = first;
            return false;
        }

        // ---- statements: each begins at its first word and ends with its semicolon

        private boolean readHall(Layout layout) {
            nextToken();
            if (!isWord("hall")) {
                return fail(NOT_ALLOWED);
            }
            if (!readNumber(1, MAX_AISLES)) {
                return false;
            }
            int aisles = value;
            if (!readNumber(MIN_DEPTH, MAX_DEPTH)) {
                return false;
            }
            int depth = value;
            if (!readNumber(1, MAX_WIDTH)) {
                return false;
            }
            layout.build(aisles, depth, value);
            return readSemicolon();
        }

        private boolean readStatement(Hall hall) {
            if (isWord("item")) {
                return readItem(hall);
            }
            if (isWord("order")) {
                return readOrder(hall);
            }
            if (isWord("zones")) {
                return readZones(hall.layout);
            }
            if (isWord("buffer")) {
                return readBuffer(hall.layout);
            }
            if (isWord("times")) {
                return readTimes(hall.layout);
            }
            if (isWord("policy")) {
                return readPolicy(hall.layout);
            }
            return fail(NOT_ALLOWED);
        }

        private boolean readItem(Hall hall) {
            if (hall.items.count >= MAX_ITEMS) {
                return fail(TOO_MANY);
            }
            if (!readNumber(0, hall.layout.aisles - 1)) {
                return false;
            }
            int aisle = value;
            if (!readNumber(1, hall.layout.depth)) {
                return false;
            }
            int place = value;
            if (!readNumber(1, MAX_WEIGHT)) {
                return false;
            }
            int weight = value;
            if (!readNumber(0, MAX_STOCK)) {
                return false;
            }
            hall.items.append(aisle, place, weight, value);
            return readSemicolon();
        }

        private boolean readOrder(Hall hall) {
            if (hall.orders.count >= MAX_ORDERS) {
                return fail(TOO_MANY);
            }
            if (!readNumber(0, MAX_DUE)) {
                return false;
            }
            int order = hall.orders.append(value);
            for (int line = 0; line <= MAX_LINES; line++) {
                nextToken();
                if (kind == SEMICOLON) {
                    return true;
                }
                if (!isWord("line")) {
                    return fail(NOT_ALLOWED);
                }
                if (line == MAX_LINES) {
                    return fail(TOO_MANY);
                }
                if (!readNumber(0, hall.items.count - 1)) {
                    return false;
                }
                int item = value;
                if (hall.orders.hasItem(order, item)) {
                    return fail(OUT_OF_RANGE);
                }
                if (!readNumber(1, MAX_QUANTITY)) {
                    return false;
                }
                hall.orders.appendLine(order, item, value);
            }
            return false;
        }

        private boolean readZones(Layout layout) {
            if (!readNumber(1, layout.aisles - 1)) {
                return false;
            }
            int second = value;
            int third = NONE;
            nextToken();
            if (kind == NUMBER) {
                if (!isWithin(second + 1, layout.aisles - 1)) {
                    return fail(OUT_OF_RANGE);
                }
                third = value;
                nextToken();
            }
            layout.divide(second, third);
            return kind == SEMICOLON || fail(NOT_ALLOWED);
        }

        private boolean readBuffer(Layout layout) {
            if (!readNumber(0, BUFFERS - 1)) {
                return false;
            }
            int buffer = value;
            if (!readNumber(0, MAX_CAPACITY)) {
                return false;
            }
            layout.capacity[buffer] = value;
            return readSemicolon();
        }

        private boolean readTimes(Layout layout) {
            if (!readNumber(0, MAX_TIME)) {
                return false;
            }
            layout.setupTime = value;
            if (!readNumber(0, MAX_TIME)) {
                return false;
            }
            layout.itemTime = value;
            return readSemicolon();
        }

        private boolean readPolicy(Layout layout) {
            nextToken();
            if (isWord("return")) {
                layout.policy = RETURN;
            } else if (isWord("sshape")) {
                layout.policy = S_SHAPE;
            } else if (isWord("gap")) {
                layout.policy = LARGEST_GAP;
            } else if (isWord("combined")) {
                layout.policy = COMBINED;
            } else {
                return fail(NOT_ALLOWED);
            }
            return readSemicolon();
        }

        private boolean readNumber(int low, int high) {
            nextToken();
            if (kind != NUMBER) {
                return fail(NOT_ALLOWED);
            }
            return isWithin(low, high) || fail(OUT_OF_RANGE);
        }

        private boolean readSemicolon() {
            nextToken();
            return kind == SEMICOLON || fail(NOT_ALLOWED);
        }

        private boolean isWithin(int low, int high) {
            return value >= low && value <= high;
        }

        // ---- tokens

        private void nextToken() {
            while (behind < length && (text[behind] == ' ' || text[behind] == '\n')) {
                behind++;
            }
            first = behind;
            if (first >= length) {
                kind = END;
            } else if (text[first] >= 'a' && text[first] <= 'z') {
                kind = WORD;
                passWord();
            } else if (text[first] >= '0' && text[first] <= '9') {
                kind = NUMBER;
                passNumber();
            } else {
                kind = text[first] == ';' ? SEMICOLON : STRANGE;
                behind++;
            }
        }

        private void passWord() {
            while (behind < length && text[behind] >= 'a' && text[behind] <= 'z') {
                behind++;
            }
        }

        private void passNumber() {
            value = 0;
            while (behind < length && text[behind] >= '0' && text[behind] <= '9') {
                if (value < HUGE) {
                    value = value * 10 + text[behind] - '0';
                }
                behind++;
            }
        }

        private boolean isWord(String word) {
            if (kind != WORD || behind - first != word.length()) {
                return false;
            }
            for (int k = 0; k < word.length(); k++) {
                if (text[first + k] != word.charAt(k)) {
                    return false;
                }
            }
            return true;
        }
    }
}
