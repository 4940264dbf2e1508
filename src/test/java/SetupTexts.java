import java.util.Random;

/** Random setup texts of at most 600 bytes, mostly. */
final class SetupTexts {
    private static final String[] WORDS = {"hall", "item", "order", "line", "zones", "buffer", "times", "policy",
        "return", "sshape", "gap", "combined", ";", "0", "1", "2", "25", "99999999999", "007", "lines", "ite",
        "A", "-", "@", "\t", "\u00e9", "\u0000"};

    private SetupTexts() {
    }

    static String correct(Random random) {
        StringBuilder text = new StringBuilder();
        int aisles = 1 + random.nextInt(6);
        int depth = 2 + random.nextInt(19);
        words(text, random, "hall", aisles, depth, 1 + random.nextInt(9), ";");
        int items = random.nextInt(random.nextInt(3) == 0 ? 25 : 11);
        for (int k = 0; k < items; k++) {
            words(text, random, "item", random.nextInt(aisles), 1 + random.nextInt(depth),
                    1 + random.nextInt(50), random.nextInt(random.nextBoolean() ? 20 : 1000), ";");
        }
        int statements = random.nextInt(14);
        for (int k = 0; k < statements && text.length() < 560; k++) {
            statement(text, random, aisles, items);
        }
        return text.length() <= 600 ? text.toString() : text.substring(0, text.lastIndexOf(";", 599) + 1);
    }

    private static void statement(StringBuilder text, Random random, int aisles, int items) {
        switch (random.nextInt(8)) {
            case 0 -> {
                if (aisles > 1) {
                    int second = 1 + random.nextInt(aisles - 1);
                    words(text, random, "zones", second);
                    if (second + 1 < aisles && random.nextBoolean()) {
                        words(text, random, second + 1 + random.nextInt(aisles - second - 1));
                    }
                    words(text, random, ";");
                }
            }
            case 1 -> words(text, random, "buffer", random.nextInt(2), random.nextInt(5), ";");
            case 2 -> words(text, random, "times", random.nextInt(100), random.nextInt(100), ";");
            case 3 -> words(text, random, "policy", WORDS[8 + random.nextInt(4)], ";");
            default -> {
                words(text, random, "order", random.nextInt(random.nextBoolean() ? 200 : 10000));
                int lines = Math.min(items, random.nextInt(7));
                int first = lines == 0 ? 0 : random.nextInt(items);
                for (int line = 0; line < lines; line++) {
                    words(text, random, "line", (first + line) % items, 1 + random.nextInt(99));
                }
                words(text, random, ";");
            }
        }
    }

    private static void words(StringBuilder text, Random random, Object... parts) {
        for (Object part : parts) {
            String next = part.toString();
            boolean glued = text.length() == 0 || joins(text.charAt(text.length() - 1), next.charAt(0));
            if (!glued || random.nextInt(8) == 0) {
                text.append(random.nextInt(6) == 0 ? '\n' : ' ');
            }
            if (part instanceof Integer && random.nextInt(12) == 0) {
                text.append("00");
            }
            text.append(next);
        }
    }

    private static boolean joins(char left, char right) {
        return kind(left) != kind(right) || kind(left) == 0;
    }

    private static int kind(char sign) {
        return sign >= 'a' && sign <= 'z' ? 1 : sign >= '0' && sign <= '9' ? 2 : 0;
    }

    static String spoiled(Random random) {
        StringBuilder text = new StringBuilder(random.nextInt(4) == 0 ? full(random) : correct(random));
        int changes = random.nextInt(3);
        for (int k = 0; k < changes && text.length() > 0; k++) {
            int at = random.nextInt(text.length());
            switch (random.nextInt(5)) {
                case 0 -> text.deleteCharAt(at);
                case 1 -> text.setCharAt(at, WORDS[random.nextInt(WORDS.length)].charAt(0));
                case 2 -> text.insert(at, WORDS[random.nextInt(WORDS.length)]);
                case 3 -> text.setLength(at);
                default -> text.insert(text.indexOf(" ", at) + 1, WORDS[random.nextInt(WORDS.length)] + " ");
            }
        }
        return text.length() > 600 ? text.substring(0, 600) : text.toString();
    }

    /** A text with as many items, orders or lines as there can be, or one more. */
    private static String full(Random random) {
        StringBuilder text = new StringBuilder("hall 1 9 1;");
        int kind = random.nextInt(3);
        int more = random.nextInt(2);
        int items = kind == 0 ? 24 + more : 7;
        for (int k = 0; k < items; k++) {
            text.append("item 0 ").append(1 + random.nextInt(9)).append(" 1 9;");
        }
        int orders = kind == 1 ? 16 + more : 1;
        for (int k = 0; k < orders; k++) {
            text.append("order ").append(random.nextInt(99)).append(";");
        }
        text.append("order 5");
        for (int k = 0; k < (kind == 2 ? 6 + more : 1); k++) {
            text.append(" line ").append(k).append(" 3");
        }
        return text.append(";").toString();
    }
}
