/** Counts the answers that are not as due; a test ends with exit code 1 if there was one. */
final class Check {
    interface Call {
        int run();
    }

    interface Action {
        void run();
    }

    private static int checked = 0;
    private static int wrong = 0;

    private Check() {
    }

    static void same(String what, long due, long got) {
        checked++;
        if (due != got) {
            wrong++;
            System.out.println(what + " answered " + got + ", due is " + due);
        }
    }

    static void same(String what, String due, String got) {
        checked++;
        if (!due.equals(got)) {
            wrong++;
            System.out.println(what + " answered " + got + ", due is " + due);
        }
    }

    /** The call must throw just this class of exception, and leave everything that can be seen as it was. */
    static void refused(String what, Class<? extends RuntimeException> kind, PickHall x, Call call) {
        String before = Snapshot.of(x);
        same(what, kind.getSimpleName(), outcome(call));
        same(what + ": state behind it", before, Snapshot.of(x));
    }

    static void index(String what, PickHall x, Call call) {
        refused(what, IndexOutOfBoundsException.class, x, call);
    }

    static void argument(String what, PickHall x, Call call) {
        refused(what, IllegalArgumentException.class, x, call);
    }

    static void state(String what, PickHall x, Call call) {
        refused(what, IllegalStateException.class, x, call);
    }

    static String outcome(Call call) {
        try {
            return Integer.toString(call.run());
        } catch (RuntimeException e) {
            return e.getClass().getSimpleName();
        }
    }

    static Call of(Action action) {
        return () -> {
            action.run();
            return 0;
        };
    }

    static void end(String test) {
        System.out.println(test + ": " + checked + " checks, " + wrong + " wrong");
        System.exit(wrong == 0 ? 0 : 1);
    }
}
