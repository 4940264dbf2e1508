import java.util.ArrayList;
import java.util.Collections;
import java.util.Comparator;
import java.util.List;
import java.util.TreeSet;

/**
 * The document once more, written another way: with lists and sets, by trying everything, and without
 * regard for speed. ModelTest compares the answers of PickHall with its answers.
 */
final class Model {
    record Item(int aisle, int place, int weight) {
    }

    static final class Line {
        final int item;
        final int quantity;
        int picked;

        Line(int item, int quantity) {
            this.item = item;
            this.quantity = quantity;
        }
    }

    static final class Order {
        int due;
        int state;
        boolean again;
        List<Line> lines = new ArrayList<>();

        Order copy() {
            Order copy = new Order();
            copy.due = due;
            copy.state = state;
            copy.again = again;
            for (Line line : lines) {
                Line other = new Line(line.item, line.quantity);
                other.picked = line.picked;
                copy.lines.add(other);
            }
            return copy;
        }
    }

    static final class State {
        int aisles = 4;
        int depth = 10;
        int width = 2;
        List<Integer> zoneStarts = new ArrayList<>(List.of(0));
        int policy;
        int setup;
        int perItem = 1;
        int[] buffer = {1, 1};
        List<Item> items = new ArrayList<>();
        List<Integer> stock = new ArrayList<>();
        List<Order> orders = new ArrayList<>();
        List<TreeSet<Integer>> batches = new ArrayList<>();

        State copy() {
            State copy = new State();
            copy.aisles = aisles;
            copy.depth = depth;
            copy.width = width;
            copy.zoneStarts = new ArrayList<>(zoneStarts);
            copy.policy = policy;
            copy.setup = setup;
            copy.perItem = perItem;
            copy.buffer = buffer.clone();
            copy.items = new ArrayList<>(items);
            copy.stock = new ArrayList<>(stock);
            for (Order order : orders) {
                copy.orders.add(order.copy());
            }
            for (TreeSet<Integer> batch : batches) {
                copy.batches.add(new TreeSet<>(batch));
            }
            return copy;
        }
    }

    State s = new State();
    final State[] slots = new State[2];
    String text = "";
    int code = 0;
    int position = -1;

    private static void index(boolean good) {
        if (!good) {
            throw new IndexOutOfBoundsException();
        }
    }

    private static void argument(boolean good) {
        if (!good) {
            throw new IllegalArgumentException();
        }
    }

    private static void state(boolean good) {
        if (!good) {
            throw new IllegalStateException();
        }
    }

    private static boolean in(int value, int low, int high) {
        return low <= value && value <= high;
    }

    private Order order(int order) {
        index(in(order, 0, s.orders.size() - 1));
        return s.orders.get(order);
    }

    private TreeSet<Integer> batch(int batch) {
        index(in(batch, 0, s.batches.size() - 1));
        return s.batches.get(batch);
    }

    private void zone(int zone) {
        index(in(zone, 0, s.zoneStarts.size() - 1));
    }

    private static int mask(Iterable<Integer> numbers) {
        int mask = 0;
        for (int number : numbers) {
            mask += 1 << number;
        }
        return mask;
    }

    int setLayout(int aisles, int depth, int width) {
        argument(in(aisles, 1, 6) && in(depth, 2, 20) && in(width, 1, 9));
        state(s.items.isEmpty());
        s.aisles = aisles;
        s.depth = depth;
        s.width = width;
        s.zoneStarts = new ArrayList<>(List.of(0));
        return aisles * depth;
    }

    int aisleCount() {
        return s.aisles;
    }

    int addItem(int aisle, int place, int weight, int stock) {
        index(in(aisle, 0, s.aisles - 1) && in(place, 1, s.depth));
        argument(in(weight, 1, 50) && in(stock, 0, 999));
        state(s.items.size() < 24);
        s.items.add(new Item(aisle, place, weight));
        s.stock.add(stock);
        return s.items.size() - 1;
    }

    int itemCount() {
        return s.items.size();
    }

    int stock(int item) {
        index(in(item, 0, s.items.size() - 1));
        return s.stock.get(item);
    }

    int restock(int item, int units) {
        index(in(item, 0, s.items.size() - 1));
        argument(in(units, 1, 999) && s.stock.get(item) + units <= 999);
        s.stock.set(item, s.stock.get(item) + units);
        return s.stock.get(item);
    }

    int addOrder(int due) {
        argument(in(due, 0, 9999));
        state(s.orders.size() < 16);
        Order order = new Order();
        order.due = due;
        s.orders.add(order);
        return s.orders.size() - 1;
    }

    int addLine(int order, int item, int quantity) {
        Order o = order(order);
        index(in(item, 0, s.items.size() - 1));
        argument(in(quantity, 1, 99));
        state(o.state == 0 && o.lines.size() < 6 && o.lines.stream().noneMatch(line -> line.item == item));
        o.lines.add(new Line(item, quantity));
        return o.lines.size() - 1;
    }

    int orderCount() {
        return s.orders.size();
    }

    int orderState(int order) {
        return order(order).state;
    }

    int lineCount(int order) {
        return order(order).lines.size();
    }

    int due(int order) {
        return order(order).due;
    }

    int setDue(int order, int due) {
        Order o = order(order);
        argument(in(due, 0, 9999));
        state(o.state < 2);
        int previous = o.due;
        o.due = due;
        return previous;
    }

    private int weight(Iterable<Integer> orders) {
        int weight = 0;
        for (int order : orders) {
            for (Line line : s.orders.get(order).lines) {
                weight += line.quantity * s.items.get(line.item).weight;
            }
        }
        return weight;
    }

    private TreeSet<Integer> aisles(Iterable<Integer> orders) {
        TreeSet<Integer> aisles = new TreeSet<>();
        for (int order : orders) {
            for (Line line : s.orders.get(order).lines) {
                aisles.add(s.items.get(line.item).aisle);
            }
        }
        return aisles;
    }

    int orderWeight(int order) {
        order(order);
        return weight(List.of(order));
    }

    int orderAisles(int order) {
        order(order);
        return mask(aisles(List.of(order)));
    }

    int cancel(int order) {
        Order o = order(order);
        state(o.state < 2);
        o.state = 3;
        for (TreeSet<Integer> batch : s.batches) {
            batch.remove(order);
        }
        s.batches.removeIf(TreeSet::isEmpty);
        return s.batches.size();
    }

    int makeBatches(int orders, int weight, int rule) {
        argument(in(orders, 1, 6) && in(weight, 1, 99999) && in(rule, 0, 2));
        List<Integer> candidates = new ArrayList<>();
        for (int k = 0; k < s.orders.size(); k++) {
            Order o = s.orders.get(k);
            if (o.state == 0 && !o.lines.isEmpty() && weight(List.of(k)) <= weight) {
                candidates.add(k);
            }
        }
        int made = 0;
        while (!candidates.isEmpty() && s.batches.size() < 8) {
            // A stable sort leaves the lowest number in front among equals.
            List<Integer> ranked = new ArrayList<>(candidates);
            ranked.sort(Comparator.comparingInt(k -> rule == 0 ? s.orders.get(k).due
                    : rule == 1 ? -weight(List.of(k)) : -aisles(List.of(k)).size()));
            TreeSet<Integer> batch = new TreeSet<>(List.of(ranked.get(0)));
            candidates.remove(ranked.get(0));
            while (batch.size() < orders) {
                List<Integer> fitting = new ArrayList<>(candidates);
                fitting.removeIf(k -> weight(batch) + weight(List.of(k)) > weight);
                if (fitting.isEmpty()) {
                    break;
                }
                TreeSet<Integer> known = aisles(batch);
                Comparator<Integer> byAisles = Comparator.comparingInt(k -> {
                    TreeSet<Integer> more = aisles(List.of(k));
                    more.removeAll(known);
                    return more.size();
                });
                fitting.sort(byAisles.thenComparingInt(k -> s.orders.get(k).due));
                batch.add(fitting.get(0));
                candidates.remove(fitting.get(0));
            }
            for (int k : batch) {
                s.orders.get(k).state = 1;
            }
            s.batches.add(batch);
            made++;
        }
        return made;
    }

    int addBatch(int orders) {
        argument(orders != 0);
        TreeSet<Integer> batch = new TreeSet<>();
        for (int k = 0; k < 32; k++) {
            if ((orders & 1 << k) != 0) {
                argument(k < s.orders.size());
                batch.add(k);
            }
        }
        state(s.batches.size() < 8);
        for (int k : batch) {
            state(s.orders.get(k).state == 0 && !s.orders.get(k).lines.isEmpty());
        }
        for (int k : batch) {
            s.orders.get(k).state = 1;
        }
        s.batches.add(batch);
        return s.batches.size() - 1;
    }

    int dissolve(int batch) {
        for (int k : batch(batch)) {
            s.orders.get(k).state = 0;
        }
        s.batches.remove(batch);
        return s.batches.size();
    }

    int batchCount() {
        return s.batches.size();
    }

    int batchOrders(int batch) {
        return mask(batch(batch));
    }

    int batchWeight(int batch) {
        return weight(batch(batch));
    }

    private int allRoutes(List<TreeSet<Integer>> batches) {
        int sum = 0;
        for (TreeSet<Integer> batch : batches) {
            sum += length(batch, s.policy);
        }
        return sum;
    }

    int improve(int orders, int weight) {
        argument(in(orders, 1, 6) && in(weight, 1, 99999));
        int moves = 0;
        while (true) {
            int present = allRoutes(s.batches);
            int least = present;
            List<TreeSet<Integer>> best = null;
            for (int order = 0; order < s.orders.size(); order++) {
                for (int target = 0; target < s.batches.size(); target++) {
                    if (s.orders.get(order).state != 1 || s.batches.get(target).contains(order)) {
                        continue;
                    }
                    List<TreeSet<Integer>> other = new ArrayList<>();
                    for (int k = 0; k < s.batches.size(); k++) {
                        TreeSet<Integer> batch = new TreeSet<>(s.batches.get(k));
                        batch.remove(order);
                        if (k == target) {
                            batch.add(order);
                        }
                        other.add(batch);
                    }
                    boolean allowed = other.get(target).size() <= orders && weight(other.get(target)) <= weight;
                    if (allowed && allRoutes(other) < least) {
                        least = allRoutes(other);
                        best = other;
                    }
                }
            }
            if (best == null) {
                return moves;
            }
            best.removeIf(TreeSet::isEmpty);
            s.batches = best;
            moves++;
        }
    }

    int sortBatches(int rule) {
        argument(in(rule, 0, 2));
        state(rule < 2 || s.batches.size() <= 6);
        if (rule == 0) {
            s.batches.sort(Comparator.comparingInt(
                    batch -> batch.stream().mapToInt(k -> s.orders.get(k).due).min().orElse(0)));
        } else if (rule == 1) {
            s.batches.sort(Comparator.comparingInt(this::allWork));
        } else {
            List<TreeSet<Integer>> best = new ArrayList<>();
            int[] least = {Integer.MAX_VALUE};
            permute(new ArrayList<>(), new ArrayList<>(s.batches), least, best);
            s.batches = best;
        }
        return totalTardiness();
    }

    private int allWork(TreeSet<Integer> batch) {
        int sum = 0;
        for (int zone = 0; zone < s.zoneStarts.size(); zone++) {
            sum += work(batch, zone);
        }
        return sum;
    }

    private void permute(List<TreeSet<Integer>> front, List<TreeSet<Integer>> rest, int[] least,
            List<TreeSet<Integer>> best) {
        if (rest.isEmpty()) {
            int tardiness = tardiness(front);
            if (tardiness < least[0]) {
                least[0] = tardiness;
                best.clear();
                best.addAll(front);
            }
            return;
        }
        for (int k = 0; k < rest.size(); k++) {
            List<TreeSet<Integer>> longer = new ArrayList<>(front);
            longer.add(rest.get(k));
            List<TreeSet<Integer>> shorter = new ArrayList<>(rest);
            shorter.remove(k);
            permute(longer, shorter, least, best);
        }
    }

    int setPolicy(int policy) {
        argument(in(policy, 0, 3));
        int previous = s.policy;
        s.policy = policy;
        return previous;
    }

    int setZones(int second, int third) {
        argument(second == -1 || in(second, 1, s.aisles - 1));
        argument(third == -1 || in(third, 0, s.aisles - 1) && second != -1 && third > second);
        s.zoneStarts = new ArrayList<>(List.of(0));
        if (second != -1) {
            s.zoneStarts.add(second);
        }
        if (third != -1) {
            s.zoneStarts.add(third);
        }
        return s.zoneStarts.size();
    }

    int zoneOf(int aisle) {
        index(in(aisle, 0, s.aisles - 1));
        int zone = -1;
        for (int start : s.zoneStarts) {
            zone += start <= aisle ? 1 : 0;
        }
        return zone;
    }

    int setBuffer(int buffer, int capacity) {
        index(in(buffer, 0, 1));
        argument(in(capacity, 0, 4));
        int previous = s.buffer[buffer];
        s.buffer[buffer] = capacity;
        return previous;
    }

    int setTimes(int setup, int perItem) {
        argument(in(setup, 0, 99) && in(perItem, 0, 99));
        int previous = 100 * s.setup + s.perItem;
        s.setup = setup;
        s.perItem = perItem;
        return previous;
    }

    private TreeSet<Integer> itemsIn(Iterable<Integer> orders, int zone) {
        TreeSet<Integer> items = new TreeSet<>();
        for (int order : orders) {
            for (Line line : s.orders.get(order).lines) {
                if (zoneOf(s.items.get(line.item).aisle) == zone) {
                    items.add(line.item);
                }
            }
        }
        return items;
    }

    private TreeSet<Integer> placesIn(TreeSet<Integer> items, int aisle) {
        TreeSet<Integer> places = new TreeSet<>();
        for (int item : items) {
            if (s.items.get(item).aisle == aisle) {
                places.add(s.items.get(item).place);
            }
        }
        return places;
    }

    /** Walks the route: the stops go into the list, and the length is the answer. */
    private int route(Iterable<Integer> orders, int zone, int policy, List<Integer> stops) {
        TreeSet<Integer> items = itemsIn(orders, zone);
        if (items.isEmpty()) {
            return 0;
        }
        List<Integer> aisles = new ArrayList<>();
        for (int aisle = 0; aisle < s.aisles; aisle++) {
            if (!placesIn(items, aisle).isEmpty()) {
                aisles.add(aisle);
            }
        }
        int walk = 2 * (aisles.get(aisles.size() - 1) - s.zoneStarts.get(zone)) * s.width;
        int n = aisles.size();
        if (policy == 2 && n > 1) {
            return walk + largestGap(items, aisles, stops);
        }
        if (policy == 3) {
            return walk + combined(items, aisles, stops);
        }
        boolean[] crossed = new boolean[n];
        for (int k = 0; k < n; k++) {
            crossed[k] = policy == 1 && (n % 2 == 0 || k < n - 1);
        }
        return walk + walkThrough(items, aisles, crossed, stops);
    }

    /** The cost of the aisles, or a huge number if the picker ends at the back. */
    private int walkThrough(TreeSet<Integer> items, List<Integer> aisles, boolean[] crossed, List<Integer> stops) {
        boolean atFront = true;
        int cost = 0;
        for (int k = 0; k < aisles.size(); k++) {
            TreeSet<Integer> places = placesIn(items, aisles.get(k));
            for (int place : atFront ? places : places.descendingSet()) {
                visit(items, aisles.get(k), place, stops);
            }
            if (crossed[k]) {
                cost += s.depth + 1;
                atFront = !atFront;
            } else {
                cost += 2 * (atFront ? places.last() : s.depth + 1 - places.first());
            }
        }
        return atFront ? cost : 1000000;
    }

    private void visit(TreeSet<Integer> items, int aisle, int place, List<Integer> stops) {
        for (int item : items) {
            if (s.items.get(item).aisle == aisle && s.items.get(item).place == place) {
                stops.add(item);
            }
        }
    }

    private int combined(TreeSet<Integer> items, List<Integer> aisles, List<Integer> stops) {
        int n = aisles.size();
        int least = Integer.MAX_VALUE;
        List<Integer> best = new ArrayList<>();
        for (int choice = 0; choice < 1 << n; choice++) {
            boolean[] crossed = new boolean[n];
            for (int k = 0; k < n; k++) {
                crossed[k] = (choice >> (n - 1 - k)) % 2 == 1;
            }
            List<Integer> seen = new ArrayList<>();
            int cost = walkThrough(items, aisles, crossed, seen);
            if (cost < least) {
                least = cost;
                best = seen;
            }
        }
        stops.addAll(best);
        return least;
    }

    private int largestGap(TreeSet<Integer> items, List<Integer> aisles, List<Integer> stops) {
        int cost = 2 * (s.depth + 1);
        List<Integer> fromFront = new ArrayList<>();
        for (int place : placesIn(items, aisles.get(0))) {
            visit(items, aisles.get(0), place, stops);
        }
        for (int aisle : aisles.subList(1, aisles.size() - 1)) {
            List<Integer> marks = new ArrayList<>(placesIn(items, aisle));
            marks.add(0, 0);
            marks.add(s.depth + 1);
            List<Integer> gaps = new ArrayList<>();
            for (int k = 1; k < marks.size(); k++) {
                gaps.add(marks.get(k) - marks.get(k - 1));
            }
            int widest = gaps.indexOf(Collections.max(gaps));
            for (int k = 0; k < gaps.size(); k++) {
                cost += k == widest ? 0 : 2 * gaps.get(k);
            }
            for (int k = marks.size() - 2; k > widest; k--) {
                visit(items, aisle, marks.get(k), stops);
            }
            List<Integer> before = new ArrayList<>();
            for (int k = 1; k <= widest; k++) {
                visit(items, aisle, marks.get(k), before);
            }
            fromFront.addAll(0, before);
        }
        int last = aisles.get(aisles.size() - 1);
        for (int place : placesIn(items, last).descendingSet()) {
            visit(items, last, place, stops);
        }
        stops.addAll(fromFront);
        return cost;
    }

    private int length(Iterable<Integer> orders, int policy) {
        int sum = 0;
        for (int zone = 0; zone < s.zoneStarts.size(); zone++) {
            sum += route(orders, zone, policy, new ArrayList<>());
        }
        return sum;
    }

    int routeLength(int batch, int zone, int policy) {
        TreeSet<Integer> orders = batch(batch);
        zone(zone);
        argument(in(policy, 0, 3));
        return route(orders, zone, policy, new ArrayList<>());
    }

    int batchRoute(int batch) {
        return length(batch(batch), s.policy);
    }

    int bestPolicy(int batch) {
        TreeSet<Integer> orders = batch(batch);
        List<Integer> policies = new ArrayList<>(List.of(0, 1, 2, 3));
        policies.sort(Comparator.comparingInt(policy -> length(orders, policy)));
        return policies.get(0);
    }

    int stopCount(int batch, int zone) {
        TreeSet<Integer> orders = batch(batch);
        zone(zone);
        return itemsIn(orders, zone).size();
    }

    int stopItem(int batch, int zone, int stop) {
        TreeSet<Integer> orders = batch(batch);
        zone(zone);
        List<Integer> stops = new ArrayList<>();
        route(orders, zone, s.policy, stops);
        index(in(stop, 0, stops.size() - 1));
        return stops.get(stop);
    }

    int savedDistance() {
        int alone = 0;
        for (TreeSet<Integer> batch : s.batches) {
            for (int order : batch) {
                alone += length(List.of(order), s.policy);
            }
        }
        return alone - allRoutes(s.batches);
    }

    private int work(Iterable<Integer> orders, int zone) {
        List<Integer> stops = new ArrayList<>();
        int length = route(orders, zone, s.policy, stops);
        return stops.isEmpty() ? 0 : s.setup + length + s.perItem * stops.size();
    }

    /** Start and leave times straight from the document's words, by recursion. */
    private int started(List<TreeSet<Integer>> sequence, int b, int zone) {
        int time = 0;
        if (zone > 0) {
            time = Math.max(time, left(sequence, b, zone - 1));
        }
        if (b > 0) {
            time = Math.max(time, left(sequence, b - 1, zone));
        }
        return time;
    }

    private final java.util.Map<String, Integer> leftTimes = new java.util.HashMap<>();

    private int left(List<TreeSet<Integer>> sequence, int b, int zone) {
        String key = sequence.subList(0, b + 1) + "@" + zone;
        Integer known = leftTimes.get(key);
        if (known != null) {
            return known;
        }
        int time = started(sequence, b, zone) + work(sequence.get(b), zone);
        if (zone < s.zoneStarts.size() - 1) {
            int c = s.buffer[zone];
            if (c == 0 && b > 0) {
                time = Math.max(time, left(sequence, b - 1, zone + 1));
            }
            if (c > 0 && b >= c) {
                time = Math.max(time, started(sequence, b - c, zone + 1));
            }
        }
        leftTimes.put(key, time);
        return time;
    }

    private int completed(List<TreeSet<Integer>> sequence, int b) {
        return left(sequence, b, s.zoneStarts.size() - 1);
    }

    private int tardiness(List<TreeSet<Integer>> sequence) {
        int sum = 0;
        for (int b = 0; b < sequence.size(); b++) {
            for (int order : sequence.get(b)) {
                sum += Math.max(0, completed(sequence, b) - s.orders.get(order).due);
            }
        }
        return sum;
    }

    /** The driver calls this before each call, since what the times depend on may have changed. */
    void forget() {
        leftTimes.clear();
    }

    int workTime(int batch, int zone) {
        TreeSet<Integer> orders = batch(batch);
        zone(zone);
        return work(orders, zone);
    }

    int startTime(int batch, int zone) {
        batch(batch);
        zone(zone);
        return started(s.batches, batch, zone);
    }

    int leaveTime(int batch, int zone) {
        batch(batch);
        zone(zone);
        return left(s.batches, batch, zone);
    }

    int blockedTime(int zone) {
        zone(zone);
        int sum = 0;
        for (int b = 0; b < s.batches.size(); b++) {
            sum += left(s.batches, b, zone) - started(s.batches, b, zone) - work(s.batches.get(b), zone);
        }
        return sum;
    }

    int makespan() {
        return s.batches.isEmpty() ? 0 : completed(s.batches, s.batches.size() - 1);
    }

    private int lateness0(int order) {
        for (int b = 0; b < s.batches.size(); b++) {
            if (s.batches.get(b).contains(order)) {
                return completed(s.batches, b) - s.orders.get(order).due;
            }
        }
        return 0;
    }

    int lateness(int order) {
        state(order(order).state == 1);
        return lateness0(order);
    }

    int lateOrders() {
        int late = 0;
        for (int order = 0; order < s.orders.size(); order++) {
            late += lateness0(order) > 0 ? 1 << order : 0;
        }
        return late;
    }

    int totalTardiness() {
        leftTimes.clear();
        return tardiness(s.batches);
    }

    private int mean(boolean numerator) {
        int count = 0;
        for (Order order : s.orders) {
            count += order.state == 1 ? 1 : 0;
        }
        if (count == 0) {
            return numerator ? 0 : 1;
        }
        int total = totalTardiness();
        for (int divisor = count; ; divisor--) {
            if (total % divisor == 0 && count % divisor == 0) {
                return (numerator ? total : count) / divisor;
            }
        }
    }

    int meanTardinessNumerator() {
        return mean(true);
    }

    int meanTardinessDenominator() {
        return mean(false);
    }

    int pickBatch() {
        state(!s.batches.isEmpty());
        int units = 0;
        for (int k : s.batches.remove(0)) {
            for (Line line : s.orders.get(k).lines) {
                while (line.picked < line.quantity && s.stock.get(line.item) > 0) {
                    line.picked++;
                    s.stock.set(line.item, s.stock.get(line.item) - 1);
                    units++;
                }
            }
            s.orders.get(k).state = 2;
        }
        return units;
    }

    private Line line(int order, int line) {
        index(in(line, 0, order(order).lines.size() - 1));
        return order(order).lines.get(line);
    }

    int pickedUnits(int order, int line) {
        Line l = line(order, line);
        return order(order).state == 2 ? l.picked : 0;
    }

    int shortUnits(int order, int line) {
        Line l = line(order, line);
        return order(order).state == 2 ? l.quantity - l.picked : 0;
    }

    int totalOrdered() {
        return s.orders.stream().filter(o -> o.state == 2).flatMap(o -> o.lines.stream())
                .mapToInt(l -> l.quantity).sum();
    }

    int totalPicked() {
        return s.orders.stream().filter(o -> o.state == 2).flatMap(o -> o.lines.stream())
                .mapToInt(l -> l.picked).sum();
    }

    int reorder(int order, int due) {
        Order o = order(order);
        argument(in(due, 0, 9999));
        state(o.state == 2 && !o.again && s.orders.size() < 16);
        state(o.lines.stream().anyMatch(l -> l.picked < l.quantity));
        Order next = new Order();
        next.due = due;
        for (Line line : o.lines) {
            if (line.picked < line.quantity) {
                next.lines.add(new Line(line.item, line.quantity - line.picked));
            }
        }
        o.again = true;
        s.orders.add(next);
        return s.orders.size() - 1;
    }

    int appendText(int fourBytes) {
        state(text.length() <= 596);
        for (int k = 3; k >= 0; k--) {
            text += (char) (fourBytes >>> 8 * k & 255);
        }
        return text.length();
    }

    int truncateText(int length) {
        argument(in(length, 0, text.length()));
        text = text.substring(0, length);
        return length;
    }

    int load() {
        ModelParser parser = new ModelParser(text);
        text = "";
        State read = parser.read();
        code = parser.code;
        position = parser.position;
        if (read == null) {
            return -1;
        }
        s = read;
        return s.orders.size();
    }

    int errorCode() {
        return code;
    }

    int errorPosition() {
        return position;
    }

    void save(int slot) {
        argument(in(slot, 0, 1));
        slots[slot] = s.copy();
    }

    void restore(int slot) {
        argument(in(slot, 0, 1));
        state(slots[slot] != null);
        s = slots[slot].copy();
    }
}
