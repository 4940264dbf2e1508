import java.lang.reflect.InvocationTargetException;
import java.lang.reflect.Method;
import java.util.ArrayList;
import java.util.Arrays;
import java.util.HashMap;
import java.util.List;
import java.util.Map;
import java.util.Random;

/** Runs of random calls, always the same ones, whose answers are compared with those of Model. */
public final class ModelTest {
    private static final int RUNS = 1500;
    private static final int CALLS = 120;
    private static final Map<String, Method> REAL = methods(PickHall.class);
    private static final Map<String, Method> MODEL = methods(Model.class);
    private static final Map<String, Integer> ANSWERED = new HashMap<>();
    private static final Map<String, Integer> REFUSED = new HashMap<>();

    private final Random random;
    private final PickHall real = new PickHall();
    private final Model model = new Model();
    private final List<String> told = new ArrayList<>();
    private boolean wrong = false;

    private ModelTest(long seed) {
        random = new Random(seed);
    }

    public static void main(String[] args) throws Exception {
        int runs = args.length > 0 ? Integer.parseInt(args[0]) : RUNS;
        for (int run = 0; run < runs; run++) {
            ModelTest test = new ModelTest(run);
            test.run(run);
            Check.same("run " + run, 0, test.wrong ? 1 : 0);
            if (test.wrong) {
                break;
            }
        }
        for (String name : REAL.keySet()) {
            Check.same(name + " was answered in some run", 1, ANSWERED.containsKey(name) ? 1 : 0);
            boolean throwing = REAL.get(name).getExceptionTypes().length > 0;
            Check.same(name + " was refused in some run", throwing ? 1 : 0, REFUSED.containsKey(name) ? 1 : 0);
        }
        if (args.length > 0) {
            System.out.println("answered " + ANSWERED + "\nrefused " + REFUSED);
        }
        Check.end("ModelTest");
    }

    private static Map<String, Method> methods(Class<?> kind) {
        Map<String, Method> found = new HashMap<>();
        for (Method method : kind.getDeclaredMethods()) {
            boolean isFace = Arrays.stream(PickHall.class.getMethods())
                    .anyMatch(face -> face.getDeclaringClass() == PickHall.class
                            && face.getName().equals(method.getName()));
            if (isFace && !java.lang.reflect.Modifier.isPrivate(method.getModifiers())) {
                found.put(method.getName(), method);
            }
        }
        return found;
    }

    private static String answer(Object object, Method method, Object[] arguments) throws Exception {
        try {
            return String.valueOf(method.invoke(object, arguments));
        } catch (InvocationTargetException e) {
            return e.getCause().getClass().getName();
        }
    }

    private void call(String name, int... numbers) throws Exception {
        if (wrong) {
            return;
        }
        Object[] arguments = Arrays.stream(numbers).boxed().toArray();
        model.forget();
        String due = answer(model, MODEL.get(name), arguments);
        String got = answer(real, REAL.get(name), arguments);
        told.add(name + Arrays.toString(numbers) + " = " + got);
        (got.startsWith("java") ? REFUSED : ANSWERED).merge(name, 1, Integer::sum);
        if (name.equals("improve") && !got.equals("0")) {
            ANSWERED.merge("improve, with moves", 1, Integer::sum);
        }
        if (name.equals("sortBatches") && model.s.batches.size() > 3) {
            ANSWERED.merge("sortBatches, of more than 3", 1, Integer::sum);
        }
        if (!due.equals(got)) {
            wrong = true;
            told.forEach(System.out::println);
            System.out.println("due is " + due);
        }
    }

    private void run(int run) throws Exception {
        int style = run % 4;
        if (style == 0) {
            build();
        } else if (style == 1) {
            loadText(SetupTexts.correct(random));
        } else if (style == 2) {
            loadText(SetupTexts.spoiled(random));
        }
        for (int k = 0; k < CALLS && !wrong; k++) {
            if (random.nextInt(3) > 0) {
                change();
            }
            ask();
        }
        askAll();
    }

    private void build() throws Exception {
        call("setLayout", 1 + random.nextInt(6), 2 + random.nextInt(random.nextBoolean() ? 19 : 5),
                1 + random.nextInt(9));
        int items = random.nextInt(25);
        for (int k = 0; k < items; k++) {
            call("addItem", random.nextInt(model.s.aisles), 1 + random.nextInt(model.s.depth),
                    1 + random.nextInt(50), random.nextInt(random.nextBoolean() ? 30 : 1000));
        }
        int orders = random.nextInt(17);
        int latest = random.nextBoolean() ? 400 : 20;
        for (int k = 0; k < orders; k++) {
            call("addOrder", random.nextInt(latest));
            int lines = random.nextInt(7);
            for (int line = 0; line < lines && items > 0; line++) {
                call("addLine", k, random.nextInt(items), 1 + random.nextInt(random.nextBoolean() ? 9 : 99));
            }
        }
        if (model.s.aisles > 1 && random.nextInt(3) > 0) {
            int second = 1 + random.nextInt(model.s.aisles - 1);
            call("setZones", second, second + 1 < model.s.aisles ? second + 1 : -1);
        }
        call("setPolicy", random.nextInt(4));
        for (int k = 0; k < 8 && random.nextInt(8) > 0; k++) {
            call("addBatch", someOrders());
        }
    }

    private void loadText(String text) throws Exception {
        int length = text.length();
        for (int k = 0; k < length; k += 4) {
            int four = 0;
            for (int b = 0; b < 4; b++) {
                four = four << 8 | (k + b < length ? text.charAt(k + b) & 255 : ' ');
            }
            call("appendText", four);
        }
        if (length <= 600) {
            call("truncateText", length);
        }
        call("load");
        call("errorCode");
        call("errorPosition");
    }

    /** A number that is mostly good: from low to high, or else an edge or something wild. */
    private int about(int low, int high) {
        int kind = random.nextInt(40);
        if (kind == 0) {
            return low - 1;
        }
        if (kind == 1) {
            return high + 1;
        }
        if (kind == 2) {
            return random.nextInt();
        }
        if (kind == 3) {
            return random.nextBoolean() ? Integer.MAX_VALUE : Integer.MIN_VALUE;
        }
        if (kind < 6 || high <= low) {
            return low;
        }
        return kind < 8 ? high : low + random.nextInt(high - low + 1);
    }

    private int order() {
        return about(0, model.s.orders.size() - 1);
    }

    private int item() {
        return about(0, model.s.items.size() - 1);
    }

    private int batch() {
        return about(0, model.s.batches.size() - 1);
    }

    private int zone() {
        return about(0, model.s.zoneStarts.size() - 1);
    }

    private int someOrders() {
        int orders = 0;
        int present = model.s.orders.size();
        for (int order = 0; order < present; order++) {
            Model.Order o = model.s.orders.get(order);
            boolean ready = o.state == 0 && !o.lines.isEmpty();
            orders |= (ready ? random.nextInt(5) : random.nextInt(60) + 1) == 0 ? 1 << order : 0;
        }
        return random.nextInt(30) == 0 ? about(1, (1 << present) - 1) : orders;
    }

    private void change() throws Exception {
        switch (random.nextInt(26)) {
            case 0 -> call("setLayout", about(1, 6), about(2, 20), about(1, 9));
            case 1, 2 -> call("addItem", about(0, model.s.aisles - 1), about(1, model.s.depth), about(1, 50),
                    about(0, 999));
            case 3 -> call("restock", item(), about(1, 99));
            case 4 -> call("addOrder", about(0, random.nextBoolean() ? 300 : 9999));
            case 5, 6, 7 -> call("addLine", order(), item(), about(1, 99));
            case 8 -> call("setDue", order(), about(0, random.nextBoolean() ? 300 : 9999));
            case 9 -> {
                if (random.nextInt(3) == 0) {
                    call("cancel", order());
                }
            }
            case 10 -> call("makeBatches", about(1, 6), about(1, random.nextBoolean() ? 2000 : 99999), about(0, 2));
            case 11, 12, 13 -> call("addBatch", someOrders());
            case 14 -> call("dissolve", batch());
            case 15 -> call("improve", about(1, 6), about(1, random.nextBoolean() ? 9000 : 99999));
            case 16 -> call("sortBatches", about(0, 2));
            case 17 -> call("setPolicy", about(0, 3));
            case 18 -> call("setZones", about(1, model.s.aisles - 1),
                    random.nextBoolean() ? -1 : about(1, model.s.aisles - 1));
            case 19 -> call("setBuffer", about(0, 1), about(0, 4));
            case 20 -> call("setTimes", about(0, 99), about(0, 99));
            case 21 -> call("pickBatch");
            case 22 -> call("reorder", order(), about(0, 9999));
            case 23 -> call("save", about(0, 1));
            case 24 -> {
                if (random.nextInt(4) == 0) {
                    call("restore", about(0, 1));
                }
            }
            default -> changeText();
        }
    }

    private void changeText() throws Exception {
        switch (random.nextInt(6)) {
            case 0 -> call("load");
            case 1 -> call("truncateText", about(0, model.text.length()));
            case 3 -> {
                while (model.text.length() + 4 <= 600 && !wrong) {
                    call("appendText", random.nextInt());
                }
                call("appendText", random.nextInt());
            }
            case 2 -> {
                call("truncateText", 0);
                loadText(random.nextBoolean() ? SetupTexts.correct(random) : SetupTexts.spoiled(random));
            }
            default -> call("appendText", random.nextInt());
        }
    }

    private void ask() throws Exception {
        switch (random.nextInt(20)) {
            case 0 -> call("stock", item());
            case 1 -> call("orderState", order());
            case 2 -> call("lineCount", order());
            case 3 -> call("due", order());
            case 4 -> call("orderWeight", order());
            case 5 -> call("orderAisles", order());
            case 6 -> call("batchOrders", batch());
            case 7 -> call("batchWeight", batch());
            case 8 -> call("zoneOf", about(0, model.s.aisles - 1));
            case 9 -> call("routeLength", batch(), zone(), about(0, 3));
            case 10 -> call("batchRoute", batch());
            case 11 -> call("bestPolicy", batch());
            case 12 -> call("stopCount", batch(), zone());
            case 13 -> call("stopItem", batch(), zone(), about(0, 9));
            case 14 -> call("workTime", batch(), zone());
            case 15 -> call("startTime", batch(), zone());
            case 16 -> call("leaveTime", batch(), zone());
            case 17 -> call("blockedTime", zone());
            case 18 -> call("lateness", order());
            default -> askAll();
        }
    }

    private void askAll() throws Exception {
        for (String name : List.of("aisleCount", "itemCount", "orderCount", "batchCount", "savedDistance",
                "makespan", "lateOrders", "totalTardiness", "meanTardinessNumerator", "meanTardinessDenominator",
                "totalOrdered", "totalPicked", "errorCode", "errorPosition")) {
            call(name);
        }
        for (int aisle = 0; aisle <= model.s.aisles; aisle++) {
            call("zoneOf", aisle);
        }
        for (int item = 0; item <= model.s.items.size(); item++) {
            call("stock", item);
        }
        for (int order = 0; order < model.s.orders.size(); order++) {
            askOrder(order);
        }
        for (int batch = 0; batch < model.s.batches.size(); batch++) {
            askBatch(batch);
        }
    }

    private void askOrder(int order) throws Exception {
        for (String name : List.of("orderState", "lineCount", "due", "orderWeight", "orderAisles", "lateness")) {
            call(name, order);
        }
        for (int line = 0; line <= model.s.orders.get(order).lines.size(); line++) {
            call("pickedUnits", order, line);
            call("shortUnits", order, line);
        }
    }

    private void askBatch(int batch) throws Exception {
        for (String name : List.of("batchOrders", "batchWeight", "batchRoute", "bestPolicy")) {
            call(name, batch);
        }
        for (int zone = 0; zone < model.s.zoneStarts.size(); zone++) {
            for (int policy = 0; policy < 4; policy++) {
                call("routeLength", batch, zone, policy);
            }
            for (String name : List.of("stopCount", "workTime", "startTime", "leaveTime")) {
                call(name, batch, zone);
            }
            for (int stop = 0; stop <= model.stopCount(batch, zone); stop++) {
                call("stopItem", batch, zone, stop);
            }
            call("blockedTime", zone);
        }
    }
}
