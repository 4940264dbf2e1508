/** The sentences about the text buffer and the setups: promises 53 to 57. */
final class SetupSentences {
    private static final String SECTION = "SETUP TEXTS";
    private static final String HALL = "hall 4 10 2;";
    private static final String ITEM = "item 0 1 1 1;";

    private SetupSentences() {
    }

    static void run() {
        bytes();
        tokens();
        grammar();
        ranges();
        zones();
        firstError();
        ends();
        codes();
        tooMany();
        promise53();
        promise54();
        promise55();
        promise56And57();
        promise53To55Plain();
    }

    private static void answers(PickHall x, String text, int answer, int code, int position) {
        String label = "[" + Sentences.current() + "] load of [" + text + "]";
        Check.same(label, answer, Texts.load(x, text));
        Check.same(label + ", error code", code, x.errorCode());
        Check.same(label + ", error position", position, x.errorPosition());
        Check.same(label + ", text buffer", "IllegalArgumentException", Check.outcome(() -> x.truncateText(1)));
    }

    /** The text is a setup, in a new hall and in a full one. */
    private static void loads(String text, int orders) {
        answers(new PickHall(), text, orders, 0, -1);
        answers(full(), text, orders, 0, -1);
    }

    /** The text has an error, and leaves the hall as it is. */
    private static void wrong(String text, int code, int position) {
        for (PickHall x : new PickHall[] {new PickHall(), full()}) {
            String before = Snapshot.of(x);
            answers(x, text, -1, code, position);
            String error = " error " + code + " " + position;
            Check.same("[" + text + "] the hall behind it", before.replace(" error 0 -1", error), Snapshot.of(x));
        }
    }

    /** An error behind the statement HALL; the position counts from its end. */
    private static void behind(String text, int code, int position) {
        wrong(HALL + text, code, HALL.length() + position);
    }

    /** Items, orders and batches, as many as there can be. */
    private static PickHall full() {
        PickHall x = new PickHall();
        for (String call : Halls.FULL.split("\n")) {
            Calls.answer(x, call);
        }
        return x;
    }

    private static void bytes() {
        Sentences.test(SECTION, "A setup is an ASCII text that is collected in a text buffer of at most 600 bytes.");
        loads(HALL + "order 1;".repeat(16) + " ".repeat(460), 16);
        loads(" ".repeat(588) + HALL, 0);
        loads(HALL + "order 1" + " ".repeat(580) + ";", 1);
        wrong(HALL + " ".repeat(587) + "x", 1, 599);
        for (int strange : new int[] {0, 1, 31, 127, 128, 154, 160, 187, 225, 255}) {
            behind("" + (char) strange, 1, 0);
        }
    }

    private static void tokens() {
        Sentences.test(SECTION, "Its tokens are words (maximal runs of the letters a to z), numbers (maximal runs of the");
        // The bytes beside a to z, 0 to 9 and the semicolon.
        for (String strange : new String[] {"`", "{", "/", ":", "<", "A", "Z", "[", "@", "-", "+", ".", ",", "\"", "_"}) {
            behind(strange, 1, 0);
            behind("order 1" + strange + ";", 1, 7);
            behind("order" + strange + "1;", 1, 5);
            behind("or" + strange + "der 1;", 1, 0);
        }
        behind("azaz 1;", 1, 0);
        // Words that differ from a right one in their first or last letter only.
        wrong("xall 4 10 2;", 1, 0);
        wrong("halx 4 10 2;", 1, 0);
        for (String statement : new String[] {"item 0 1 1 1", "order 1", "zones 1", "buffer 0 1", "times 1 1", "policy gap"}) {
            int end = statement.indexOf(' ');
            behind("x" + statement.substring(1) + ";", 1, 0);
            behind(statement.substring(0, end - 1) + "x" + statement.substring(end) + ";", 1, 0);
        }
        behind(ITEM + "order 1 xine 0 1;", 1, 21);
        behind(ITEM + "order 1 linx 0 1;", 1, 21);
        for (String policy : new String[] {"xeturn", "returx", "xshape", "sshapx", "xap", "gax", "xombined", "combinex"}) {
            behind("policy " + policy + ";", 1, 7);
        }
        behind("orderx 1;", 1, 0);
        behind("orde r 1;", 1, 0);
        behind("orderorder 1;", 1, 0);
        behind("order 1 0;", 1, 8);
        behind("order 1line;", 1, 11);
        loads("hall4 10 2;item0 1 1 1;order1line0 1;zones1 2;policy gap;order0;", 2);
        wrong("hall4 10 2;policygap;", 1, 11);

        Sentences.test(SECTION, "Spaces (byte 32) and line feeds (byte 10) may stand before, between and behind tokens.");
        loads("\n \nhall\n4 10\n\n2  ;\norder\n1\n;\n \n", 1);
        loads("\n".repeat(588) + HALL, 0);
        for (int strange : new int[] {9, 11, 12, 13, 31, 33}) {
            behind("order" + (char) strange + "1;", 1, 5);
            behind("order 1;" + (char) strange, 1, 8);
            wrong((char) strange + HALL, 1, 0);
        }

        Sentences.test(SECTION, "Numbers may have any number of digits.");
        loads(HALL + "order " + "0".repeat(577) + "9999;", 1);
        loads("hall " + "0".repeat(588) + "4 2 9;", 0);
        behind("order " + "9".repeat(581) + ";", 2, 6);
        behind("order 1" + "0".repeat(580) + ";", 2, 6);
        behind("order " + "0".repeat(576) + "10000;", 2, 6);
        wrong(HALL + "order " + "1".repeat(582), 2, 18);
    }

    private static void grammar() {
        Sentences.test(SECTION, "setup = ");
        loads(HALL, 0);
        wrong("", 1, 0);
        wrong("order 1;", 1, 0);
        wrong(HALL + HALL, 1, 12);
        wrong("hall 4 10 2", 1, 11);
        behind(";", 1, 0);
        behind("order 1;;", 1, 8);
        behind("order 1 order 1;", 1, 8);
        Sentences.test(SECTION, "statement = ");
        loads(HALL + ITEM + "order 1;order 1 line 0 1;zones 1;zones 1 2;buffer 0 1;times 1 1;policy gap;", 2);
        behind("zones 1 2 3;", 1, 10);
        behind("zones;", 1, 5);
        behind("order 1 line;", 1, 12);
        behind("line 0 1;", 1, 0);
        Sentences.test(SECTION, "POLICY = ");
        String[] policies = {"return", "sshape", "gap", "combined"};
        for (int policy = 0; policy < 4; policy++) {
            PickHall x = full();
            answers(x, HALL + "policy " + policies[policy] + ";", 0, 0, -1);
            Check.same(policies[policy], policy, x.setPolicy(0));
            behind("policy " + policies[policy] + "s;", 1, 7);
            behind("policy " + policies[policy].substring(1) + ";", 1, 7);
        }
        behind("policy 0;", 1, 7);
        behind("policy;", 1, 6);
        behind("policy policy;", 1, 7);
        Sentences.test(SECTION, "\"order\" adds an order with its lines.");
        PickHall x = full();
        answers(x, HALL + ITEM + ITEM + "order 0;order 9999 line 1 99 line 0 1;", 2, 0, -1);
        Check.same("no lines", 0, x.lineCount(0));
        Check.same("two lines", 2, x.lineCount(1));
        Check.same("weight", 100, x.orderWeight(1));
        Check.same("due", 9999, x.due(1));
    }

    /** The number in the place of # may be from low to high, with zeros before it, and nothing else. */
    private static void number(String text, int low, int high) {
        int at = text.indexOf('#');
        int orders = text.split("order").length - 1;
        for (String good : new String[] {"" + low, "" + high, "000000000000" + low, "00" + high}) {
            loads(text.replace("#", good), orders);
        }
        for (String bad : new String[] {"" + (high + 1), "0" + (high + 1), "2147483647", "2147483648", "4294967295",
            "" + ((1L << 32) + low), "" + ((1L << 32) + high), "9223372036854775808", "18446744073709551617",
            "100000000000000000000000000000000"}) {
            wrong(text.replace("#", bad), 2, at);
        }
        if (low > 0) {
            wrong(text.replace("#", "" + (low - 1)), 2, at);
            wrong(text.replace("#", "0000"), 2, at);
        }
        for (String bad : new String[] {"-1", "-" + low, "x", "item", "@"}) {
            wrong(text.replace("#", bad), 1, at);
        }
    }

    private static void ranges() {
        Sentences.test(SECTION, "The numbers have the ranges given above; AISLE, PLACE and ITEM must exist in the hall");
        number("hall # 10 2;", 1, 6);
        number("hall 4 # 2;", 2, 20);
        number("hall 4 10 #;", 1, 9);
        number("hall 1 2 1;item # 1 1 1;", 0, 0);
        number("hall 6 20 9;item # 1 1 1;", 0, 5);
        number("hall 1 2 1;item 0 # 1 1;", 1, 2);
        number("hall 6 20 9;item 5 # 1 1;", 1, 20);
        number(HALL + "item 3 10 # 1;", 1, 50);
        number(HALL + "item 3 10 50 #;", 0, 999);
        number(HALL + "order #;", 0, 9999);
        number(HALL + ITEM + "order 1 line # 1;", 0, 0);
        number(HALL + ITEM.repeat(24) + "order 1 line # 1;", 0, 23);
        number(HALL + ITEM + "order 1 line 0 #;", 1, 99);
        number(HALL + "buffer # 1;", 0, 1);
        number(HALL + "buffer 0 #;", 0, 4);
        number(HALL + "buffer 1 #;", 0, 4);
        number(HALL + "times # 1;", 0, 99);
        number(HALL + "times 1 #;", 0, 99);
        // No item at all, and items of later statements.
        behind("order 1 line 0 1;", 2, 13);
        behind("order 1 line 0 1;" + ITEM, 2, 13);
        behind(ITEM + "order 1 line 1 1;" + ITEM, 2, 26);
    }

    private static void zones() {
        Sentences.test(SECTION, "\"zones\" gives the first aisle of zone 1, which is at least 1, and if there is a second");
        number("hall 2 10 2;zones #;", 1, 1);
        number("hall 6 10 2;zones #;", 1, 5);
        number("hall 3 10 2;zones 1 #;", 2, 2);
        number("hall 6 10 2;zones 1 #;", 2, 5);
        number("hall 6 10 2;zones 4 #;", 5, 5);
        for (String bad : new String[] {"0", "1", "2"}) {
            wrong("hall 1 10 2;zones " + bad + ";", 2, 18);
        }
        wrong("hall 2 10 2;zones 1 2;", 2, 20);
        wrong("hall 6 10 2;zones 5 6;", 2, 20);
        wrong("hall 6 10 2;zones 5 5;", 2, 20);
        wrong("hall 6 10 2;zones 5 0;", 2, 20);
        PickHall x = new PickHall();
        answers(x, "hall 6 10 2;zones 1 5;", 0, 0, -1);
        int[] due = {0, 1, 1, 1, 1, 2};
        for (int aisle = 0; aisle < 6; aisle++) {
            Check.same("zone of aisle " + aisle, due[aisle], x.zoneOf(aisle));
        }
        answers(x, "hall 6 10 2;zones 1 5;zones 5;", 0, 0, -1);
        Check.same("zone of aisle 4", 0, x.zoneOf(4));
        Check.same("zone of aisle 5", 1, x.zoneOf(5));
    }

    private static void firstError() {
        Sentences.test(SECTION, "Errors in a text: the parser reads the tokens from the first one on and stops at the");
        wrong("hall 9 99 99;@", 2, 5);
        wrong("hall @ 99 99;", 1, 5);
        wrong("item 0 1 1 1;hall 9", 1, 0);
        wrong("hall 6 21 x", 2, 7);
        behind("order 10000@", 2, 6);
        behind("order 10000x", 2, 6);
        behind("order 1 lines 9 0;order 10000;", 1, 8);
        behind(ITEM + "order 1 line 1 0;", 2, 26);
        behind("item 4 0 0 1000;", 2, 5);
        behind("item 3 0 0 1000;", 2, 7);
        behind("item 3 1 0 1000;", 2, 9);
        behind("item 3 1 1 1000;", 2, 11);
        behind("zones 9 1;", 2, 6);
        behind("buffer 2 5;", 2, 7);
        behind("times 100 100;", 2, 6);
    }

    private static void ends() {
        Sentences.test(SECTION, "The error position is the index of its first byte, or the length of the text if the text");
        wrong("", 1, 0);
        wrong(" ", 1, 1);
        wrong(" \n ", 1, 3);
        wrong(" ".repeat(600), 1, 600);
        wrong("h", 1, 0);
        wrong(" hall", 1, 5);
        wrong("x", 1, 0);
        wrong(" ".repeat(599) + "x", 1, 599);
        wrong(" ".repeat(596) + "hall", 1, 600);
        for (String text : new String[] {"item", "item 3", "item 3 1", "item 3 1 50", "item 3 1 50 9", "order", "order 1",
            ITEM + "order 1 line", ITEM + "order 1 line 0", ITEM + "order 1 line 0 1", "zones", "zones 1", "zones 1 2",
            "buffer", "buffer 1", "buffer 1 4", "times", "times 9", "times 9 9", "policy", "policy gap"}) {
            behind(text, 1, text.length());
            behind(text + "  ", 1, text.length() + 2);
            wrong(HALL + " ".repeat(588 - text.length()) + text, 1, 600);
        }
    }

    private static void codes() {
        Sentences.test(SECTION, "The error code is 1 if the token is not allowed there or a byte belongs to no token");
        behind("hall", 1, 0);
        behind("1", 1, 0);
        behind("@", 1, 0);
        behind("item item", 1, 5);
        behind("item ;", 1, 5);
        behind("item @", 1, 5);
        behind("order 1 @", 1, 8);
        behind("order 1 1", 1, 8);
        behind("policy @", 1, 7);
        behind("order 10000", 2, 6);
        // Where a semicolon must stand: each other kind of token, and a byte of no token.
        for (String text : new String[] {"item 3 1 50 9", "order 1", ITEM + "order 1 line 0 1", "zones 1", "zones 1 2",
            "buffer 1 4", "times 9 9", "policy gap"}) {
            behind(text + "@", 1, text.length());
            behind(text + (char) 255 + ";", 1, text.length());
            behind(text + " policy;", 1, text.length() + 1);
        }
        for (String text : new String[] {"item 3 1 50 9", "order 1", "zones 1 2", "buffer 1 4", "times 9 9", "policy gap"}) {
            behind(text + " 3;", 1, text.length() + 1);
        }
        wrong("hall 4 10 2@", 1, 11);
        wrong("hall 4 10 2:", 1, 11);
        wrong("hall 4 10 2 2;", 1, 12);
        wrong("hall 4 10 2 order 1;", 1, 12);
        // Where a number must stand: a semicolon.
        for (String text : new String[] {"item", "item 0", "item 0 1", "item 0 1 1", "order", ITEM + "order 1 line",
            ITEM + "order 1 line 0", "zones", "buffer", "buffer 0", "times", "times 0"}) {
            behind(text + ";", 1, text.length());
        }
        // The same item again in one order, by another number of digits too; in another order it is allowed.
        behind(ITEM + "order 1 line 0 1 line 0 1;", 2, 35);
        behind(ITEM + "order 1 line 0 1 line 000 100;", 2, 35);
        behind(ITEM.repeat(2) + "order 1 line 0 1 line 1 1 line 0 1;", 2, 57);
        loads(HALL + ITEM + "order 1 line 0 1;order 1 line 0 1;", 2);
        loads(HALL + ITEM.repeat(2) + "order 1 line 1 1 line 0 1;", 1);
    }

    /** An order with as many lines, of the items 0, 1, .. */
    private static String order(int lines) {
        StringBuilder text = new StringBuilder("order 1");
        for (int line = 0; line < lines; line++) {
            text.append(" line ").append(line).append(" 1");
        }
        return text.toString();
    }

    private static void tooMany() {
        Sentences.test(SECTION, "The error code is 1 if the token is not allowed there or a byte belongs to no token");
        loads(HALL + ITEM.repeat(24), 0);
        behind(ITEM.repeat(24) + ITEM, 3, 312);
        behind(ITEM.repeat(24) + "item", 3, 312);
        behind(ITEM.repeat(24) + "item 9 9 9 9", 3, 312);
        behind(ITEM.repeat(24) + "order 1; item;", 3, 321);
        behind(ITEM.repeat(24) + "items;", 1, 312);
        loads(HALL + "order 1;".repeat(16), 16);
        behind("order 1;".repeat(16) + "order 1;", 3, 128);
        behind("order 1;".repeat(16) + "order", 3, 128);
        behind("order 1;".repeat(16) + ITEM + "order @", 3, 141);
        behind("order 1;".repeat(16) + "orders", 1, 128);
        String items = ITEM.repeat(7);
        loads(HALL + items + order(6) + ";" + order(6) + ";", 2);
        behind(items + order(7) + ";", 3, items.length() + order(6).length() + 1);
        behind(items + order(6) + " line", 3, items.length() + order(6).length() + 1);
        behind(items + order(6) + " line 0 1;", 3, items.length() + order(6).length() + 1);
        behind(items + order(6) + " lin 6 1;", 1, items.length() + order(6).length() + 1);
        behind(items + order(6) + " 6;", 1, items.length() + order(6).length() + 1);
        // 24 items, 16 orders and 6 lines in one text of less than 600 bytes.
        loads("hall4 10 2;" + "item0 1 1 1;".repeat(24) + order(6) + ";" + "order1;".repeat(15), 16);
        // What is there before does not count.
        PickHall x = new PickHall();
        answers(x, HALL + ITEM.repeat(24), 0, 0, -1);
        answers(x, HALL + ITEM.repeat(24), 0, 0, -1);
        answers(x, HALL + "order 1;".repeat(16), 16, 0, -1);
        answers(x, HALL + "order 1;".repeat(16), 16, 0, -1);
    }

    private static void promise53() {
        Sentences.test("Promise 53", "Appends four bytes to the text buffer, the highest byte of the parameter first.");
        // "hall", " 6 2" and " 9 ;"; each int is four bytes, whatever its sign is.
        Run.of(Halls.NEW).is("appendText " + 0x68616C6C, 4).is("appendText " + 0x20362032, 8)
                .is("appendText " + 0x2039203B, 12).is("load", 0).is("aisleCount", 6)
                .is("appendText 0", 4).is("appendText -1", 8).is("appendText MIN", 12).is("appendText MAX", 16)
                .is("load", -1).is("errorCode", 1).is("errorPosition", 0);
        Run.of(Halls.NEW).is("appendText " + 0x20202080, 4).is("load", -1).is("errorPosition", 3);
        Run.of(Halls.NEW).is("appendText " + 0x80202020, 4).is("load", -1).is("errorPosition", 0);
        Sentences.test("Promise 53", "Returns the length of the text in bytes.");
        Run x = Run.of(Halls.NEW);
        for (int length = 4; length <= 600; length += 4) {
            x.is("appendText 0", length);
        }
        Run.of(Halls.NEW).then("appendText 0\ntruncateText 3").is("appendText 0", 7).is("truncateText 7", 7);
        Sentences.test("Promise 53", "Throws `IllegalStateException` if the text would be longer than 600 bytes");
        x.noneOf("appendText #", Run.STATE);
        for (int length = 597; length <= 599; length++) {
            Run.of(Halls.FULL).then("truncateText " + length).noneOf("appendText #", Run.STATE);
        }
        Run.of(Halls.FULL).then("truncateText 596").is("appendText -1", 600).refuses("appendText 0", Run.STATE);
        // After a load there is room for 600 bytes again.
        Run.of(Halls.FULL).is("load", -1).is("appendText 0", 4);
    }

    private static void promise54() {
        Sentences.test("Promise 54", "Cuts the text to its first bytes.");
        Run.of("text hall 3 2 1;order 1;").is("truncateText 11", 11).is("load", 0).is("aisleCount", 3);
        Run.of("text hall 3 2 1;@").is("truncateText 12", 12).is("truncateText 11", 11).is("load", 0);
        Sentences.test("Promise 54", "- `length`: the new length, 0 to the present length");
        Run.of(Halls.NEW).range("truncateText #", 0, 0, Run.ARGUMENT);
        Run.of(Halls.BUSY).range("truncateText #", 0, 8, Run.ARGUMENT).is("truncateText 8", 8).is("truncateText 7", 7)
                .range("truncateText #", 0, 7, Run.ARGUMENT);
        Run.of(Halls.FULL).range("truncateText #", 0, 600, Run.ARGUMENT);
        Sentences.test("Promise 54", "Throws `IllegalArgumentException` if length is out of range");
        Run.of(Halls.BUSY).refuses("truncateText 9", Run.ARGUMENT).refuses("truncateText -1", Run.ARGUMENT)
                .then("load").refuses("truncateText 1", Run.ARGUMENT).is("truncateText 0", 0);
    }

    private static void promise55() {
        Sentences.test("Promise 55", "It replaces everything except saved states: there are no batches then, one zone");
        String text = "truncateText 0\ntext hall 6 20 9;item 5 20 50 999;order 9999 line 0 99;\nload\n";
        String last = Run.of(text + "save 0\nsave 1").probe();
        for (String hall : new String[] {Halls.NEW, Halls.BUSY, Halls.FULL}) {
            Check.same("[" + Sentences.current() + "]", last, Run.of(hall).then(text + "save 0\nsave 1").probe());
            Run.of(hall).then(text).is("batchCount", 0).are("zoneOf #", 0, 0, 0, 0, 0, 0).is("setPolicy 0", 0)
                    .is("setTimes 0 1", 1).is("setBuffer 0 1", 1).is("setBuffer 1 1", 1).is("totalOrdered", 0);
        }
        // Order 0 of BUSY was ordered again; order 0 of the text was not.
        Run.of(Halls.BUSY).then(text + "addOrder 1\naddLine 1 0 99\naddBatch 1\npickBatch").is("stock 0", 900)
                .refuses("reorder 0 1", Run.STATE);
        Run.of(Halls.BUSY).then("truncateText 0\ntext hall 1 2 1;item 0 1 1 0;order 1 line 0 1;order 1 line 0 1;\nload\n"
                + "addBatch 3\npickBatch").is("reorder 0 1", 2).is("reorder 1 1", 3);
        Run.of(Halls.BUSY).then(text + "restore 0").is("itemCount", 6).is("orderCount", 8).is("batchCount", 2);
        Run.of(Halls.FULL).then(text + "restore 1").is("itemCount", 24).is("orderCount", 16).is("batchCount", 8);
        Run.of("text hall 2 2 1;zones 1;policy combined;times 99 0;buffer 0 0;buffer 1 4;\nload").are("zoneOf #", 0, 1)
                .is("setPolicy 0", 3).is("setTimes 0 1", 9900).is("setBuffer 0 1", 0).is("setBuffer 1 1", 4);
        Sentences.test("Promise 55", "The text buffer is empty afterwards, also if there is an error.");
        Run.of("text hall 2 2 1;\nload").is("truncateText 0", 0).refuses("truncateText 1", Run.ARGUMENT)
                .then("text hall\nload").refuses("truncateText 1", Run.ARGUMENT).is("load", -1).is("errorPosition", 0);
        Sentences.test("Promise 55", "Returns the number of orders; NONE if the text has an error (the hall stays as it is).");
        loads(HALL, 0);
        loads(HALL + "order 1;", 1);
        loads(HALL + "order 1;".repeat(16), 16);
        // The error of BUSY is the same, so that a load of "hall 9" changes nothing but the text.
        Check.same("[" + Sentences.current() + "]", Run.of(Halls.BUSY).then("truncateText 0").probe(),
                Run.of(Halls.BUSY).then("truncateText 0\ntext hall 9\nload").probe());
        String error = "truncateText 0\ntext hall 2 2 1;item 0 1 1 1;order 5 line 0 1;times 5 5;policy gap;zones 1;zones 2;\nload";
        Run.of(Halls.BUSY).then(error).is("errorCode", 2).is("aisleCount", 5).is("itemCount", 6).is("orderCount", 9)
                .is("setPolicy 0", 2).is("setTimes 0 1", 703).is("setBuffer 0 1", 0).is("setBuffer 1 1", 2)
                .are("zoneOf #", 0, 0, 1, 1, 2).batches(24, 32);
    }

    private static void promise56And57() {
        Sentences.test("Promise 56", "Returns the error code of the latest load(); 0 if its text had no error, or if there");
        Run.of(Halls.NEW).is("errorCode", 0).then("text hall 9\nload").is("errorCode", 2).then("text hall 1 2 1;\nload")
                .is("errorCode", 0).then("load").is("errorCode", 1).then("save 0\naddOrder 1\nrestore 0\nappendText 0")
                .is("errorCode", 1).then("truncateText 0\ntext hall 1 2 1;\nload").is("errorCode", 0);
        Run.of("text hall 1 2 1;" + "order 1;".repeat(17) + "\nload").is("errorCode", 3).is("orderCount", 0);
        Sentences.test("Promise 57", "Returns the error position of the latest load(); NONE if its text had no error, or if");
        Run.of(Halls.NEW).is("errorPosition", -1).then("text hall 9\nload").is("errorPosition", 5)
                .then("text hall 1 2 1;\nload").is("errorPosition", -1).then("load").is("errorPosition", 0)
                .then("save 0\naddOrder 1\nrestore 0\nappendText 0").is("errorPosition", 0)
                .then("truncateText 0\ntext hall 1 2 1;\nload").is("errorPosition", -1);
    }

    private static void promise53To55Plain() {
        Sentences.test("Promise 53", "- `fourBytes`: the bytes");
        // "hall", " 2 3" and " 4;" with one byte too many, then the same in two more parts.
        Run.of(Halls.NEW).changes("appendText " + 0x68616C6C, "text").changes("appendText " + 0x20322033, "text")
                .is("appendText " + 0x20343B40, 12).is("truncateText 11", 11).is("load", 0).is("aisleCount", 2)
                .is("setLayout 1 3 4", 3);
        Sentences.test("Promise 54", "Returns the new length.");
        Run.of("text hall 2 3 4;").is("truncateText 11", 11).is("truncateText 5", 5).is("truncateText 5", 5)
                .is("truncateText 0", 0);
        Sentences.test("Promise 55", "Reads the text as a setup.");
        // The text says what these calls say one by one.
        String calls = "setLayout 5 12 3\naddItem 4 12 7 30\naddItem 0 1 50 0\naddItem 2 6 3 999\naddOrder 40\naddLine 0 2 5\n"
                + "addLine 0 0 33\naddOrder 9\naddOrder 0\naddLine 2 1 1\nsetZones 1 3\nsetBuffer 0 4\nsetBuffer 1 0\n"
                + "setTimes 12 34\nsetPolicy 3\n";
        String text = "text hall 5 12 3; item 4 12 7 30; item 0 1 50 0; item 2 6 3 999; order 40 line 2 5 line 0 33; order 9;"
                + " order 0 line 1 1; zones 1 3; buffer 0 4; buffer 1 0; times 12 34; policy combined;\n";
        for (String more : new String[] {"", "addBatch 5\n", "makeBatches 1 99999 0\nsortBatches 2\n", "addBatch 1\npickBatch\n"}) {
            Check.same("[" + Sentences.current() + "] " + more, Run.of(calls + more).probe(), Run.of(text + "load\n" + more).probe());
        }
    }
}
