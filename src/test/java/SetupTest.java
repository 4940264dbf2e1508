/** Promises 53 to 57: the text buffer and setups. */
public final class SetupTest {
    private static final String HALL = "hall 4 10 2;";

    public static void main(String[] args) {
        promise53AppendText();
        promise54TruncateText();
        promise55Load();
        promise55Replaces();
        promise55Blanks();
        promise56And57Ends();
        promise56And57EndOfBuffer();
        promise56And57NotAllowed();
        promise56And57OutOfRange();
        promise56And57TooMany();
        promise56And57LatestLoad();
        Check.end("SetupTest");
    }

    private static void promise53AppendText() {
        PickHall x = new PickHall();
        Check.same("four bytes", 4, x.appendText(0x68616C6C));
        Check.same("eight bytes", 8, x.appendText(0x20312032));
        Check.same("twelve bytes", 12, x.appendText(0x2031203B));
        Check.same("hall 1 2 1 ; is a setup, so the highest byte came first", 0, x.load());
        Check.same("aisles", 1, x.aisleCount());
        for (int k = 1; k <= 150; k++) {
            Check.same("length", 4 * k, x.appendText(-1));
        }
        Check.state("604 bytes", x, () -> x.appendText(0));
        x.truncateText(597);
        Check.state("601 bytes", x, () -> x.appendText(0));
        x.truncateText(596);
        Check.same("600 bytes", 600, x.appendText(0));
    }

    private static void promise54TruncateText() {
        PickHall x = new PickHall();
        Check.same("empty", 0, x.truncateText(0));
        x.appendText(0x68616C6C);
        x.appendText(0x20312032);
        Check.argument("length -1", x, () -> x.truncateText(-1));
        Check.argument("length 9", x, () -> x.truncateText(9));
        Check.same("as it is", 8, x.truncateText(8));
        Check.same("five", 5, x.truncateText(5));
        Check.argument("no longer six", x, () -> x.truncateText(6));
        Check.same("goes on behind it", 9, x.appendText(0x31203220));
        Check.same("too short", -1, x.load());
        Check.same("hall 1 2 has an early end", 9, x.errorPosition());
    }

    private static void promise55Load() {
        PickHall x = new PickHall();
        Check.same("orders", 2, Texts.load(x, "hall 5 8 3; item 4 8 50 999; item 0 1 1 0; order 9999 line 1 99 line 0 1;"
                + "zones 2 3; buffer 1 4; buffer 0 0; times 99 98; policy combined; order 0;"));
        Check.same("code", 0, x.errorCode());
        Check.same("position", -1, x.errorPosition());
        Check.same("the text is empty", 0, x.truncateText(0));
        Check.argument("the text is empty", x, () -> x.truncateText(1));
        Check.same("aisles", 5, x.aisleCount());
        Check.same("items", 2, x.itemCount());
        Check.same("stock", 999, x.stock(0));
        Check.same("due", 9999, x.due(0));
        Check.same("lines", 2, x.lineCount(0));
        Check.same("weight", 99 + 50, x.orderWeight(0));
        Check.same("aisles of the order", 17, x.orderAisles(0));
        Check.same("open", 0, x.orderState(0));
        Check.same("no lines", 0, x.lineCount(1));
        Check.same("zone 0", 0, x.zoneOf(1));
        Check.same("zone 1", 1, x.zoneOf(2));
        Check.same("zone 2", 2, x.zoneOf(3));
        Check.same("times", 9998, x.setTimes(0, 1));
        Check.same("buffer 0", 0, x.setBuffer(0, 1));
        Check.same("buffer 1", 4, x.setBuffer(1, 1));
        Check.same("policy", 3, x.setPolicy(0));
        x.addBatch(1);
        // Zone 2 begins at aisle 3: a walk of 6 and place 8.
        Check.same("width and depth", 6 + 16, x.routeLength(0, 2, 0));
        Check.same("return", 0, Texts.load(x, HALL + "policy return;"));
        Check.same("return", 0, x.setPolicy(0));
        Texts.load(x, HALL + "policy sshape;");
        Check.same("sshape", 1, x.setPolicy(0));
        Texts.load(x, HALL + "policy sshape; policy gap;");
        Check.same("the later statement counts", 2, x.setPolicy(0));
        Texts.load(x, HALL + "zones 1 2; zones 3;");
        Check.same("two zones", 0, x.zoneOf(2));
        Check.same("two zones", 1, x.zoneOf(3));
    }

    private static void promise55Replaces() {
        String first = "hall 3 10 2; item 0 5 1 0; order 5 line 0 3; order 6 line 0 2; zones 1 2; policy gap;"
                + "times 3 4; buffer 0 3; buffer 1 2;";
        PickHall x = Texts.hall(first);
        x.addBatch(1);
        x.pickBatch();
        x.reorder(0, 7);
        x.addBatch(4);
        x.save(0);
        String before = Snapshot.of(x);
        Check.same("an error", -1, Texts.load(x, HALL + "item 0 5 1 0; order 5; policy none;"));
        Check.same("the text is empty", 0, x.truncateText(0));
        Check.argument("the text is empty", x, () -> x.truncateText(1));
        Check.same("code", 1, x.errorCode());
        Check.same("the hall stays as it is", before.replace("error 0 -1", "error 1 42"), Snapshot.of(x));
        Check.same("policy stays", 2, x.setPolicy(2));

        Check.same("a short setup", 0, Texts.load(x, HALL));
        PickHall y = new PickHall();
        Check.same("everything is as in a new hall", Snapshot.of(y), Snapshot.of(x));
        Check.same("policy", 0, x.setPolicy(0));
        Check.same("times", 1, x.setTimes(0, 1));
        Check.same("buffer 0", 1, x.setBuffer(0, 1));
        Check.same("buffer 1", 1, x.setBuffer(1, 1));
        x.restore(0);
        Check.same("saved states stay", before, Snapshot.of(x));

        Check.same("again", 2, Texts.load(x, first));
        x.addBatch(1);
        x.pickBatch();
        Check.same("an order of a new setup was not ordered again yet", 2, x.reorder(0, 7));
    }

    private static void promise55Blanks() {
        PickHall x = new PickHall();
        Check.same("words need one between them", -1, Texts.load(x, "hall4 10 2;item0 1 1 1;order5line0 3;policygap;"));
        Check.same("policygap is no word", 1, x.errorCode());
        Check.same("none is needed beside numbers", 1, Texts.load(x, "hall4 10 2;item0 1 1 1;order5line0 3;policy gap;"));
        Check.same("and as many", 1, Texts.load(x, "\n  hall\n4 10  2\n;item 0 1 1 1 ; order\n\n5 line 0 3;  \n"));
        Check.same("leading zeros", 0, Texts.load(x, "hall 0000000000000000000000000000004 00010 02;"));
        Check.same("aisles", 4, x.aisleCount());
    }

    private static void wrong(String text, int code, int position) {
        PickHall x = new PickHall();
        Check.same("[" + text + "] answer", -1, Texts.load(x, text));
        Check.same("[" + text + "] code", code, x.errorCode());
        Check.same("[" + text + "] position", position, x.errorPosition());
    }

    /** An error behind the hall statement; the position counts from the first byte behind it. */
    private static void wrongBehind(String text, int code, int position) {
        wrong(HALL + text, code, HALL.length() + position);
    }

    private static void promise56And57Ends() {
        wrong("", 1, 0);
        wrong(" \n ", 1, 3);
        wrong("hall", 1, 4);
        wrong("hall 4 10 2", 1, 11);
        wrong("hall 4 10 2  ", 1, 13);
        wrongBehind("item", 1, 4);
        wrongBehind("item 0 1 1", 1, 10);
        wrongBehind("item 0 1 1 1", 1, 12);
        wrongBehind("order", 1, 5);
        wrongBehind("order 7", 1, 7);
        wrongBehind("item 0 1 1 1;order 7 line", 1, 25);
        wrongBehind("item 0 1 1 1;order 7 line 0", 1, 27);
        wrongBehind("zones 1", 1, 7);
        wrongBehind("zones 1 2 ", 1, 10);
        wrongBehind("policy", 1, 6);
        wrongBehind("policy gap", 1, 10);
    }

    private static void cut(String text, int length, int code, int position) {
        PickHall x = new PickHall();
        Texts.put(x, text);
        x.truncateText(length);
        x.load();
        Check.same("[" + text + "] cut, code", code, x.errorCode());
        Check.same("[" + text + "] cut, position", position, x.errorPosition());
    }

    /** Bytes behind the end of the text do not count, nor do any behind the end of a full buffer. */
    private static void promise56And57EndOfBuffer() {
        cut("hall 4 10 25;", 11, 1, 11);
        cut("hall 4 10 2;policy gap;", 21, 1, 19);
        cut("hall 4 10 2;", 12, 0, -1);
        String blanks = " ".repeat(600);
        wrong(HALL + "times 1 " + "0".repeat(580), 1, 600);
        wrong(HALL + "a".repeat(588), 1, 12);
        wrong(HALL + blanks.substring(0, 584) + "item", 1, 600);
        PickHall x = new PickHall();
        Check.same("full of blanks", 0, Texts.load(x, HALL + blanks.substring(0, 588)));
        Check.same("full of blanks", 0, Texts.load(x, blanks.substring(0, 588) + HALL));
    }

    private static void promise56And57NotAllowed() {
        wrong("ball 4 10 2;", 1, 0);
        wrong("halls 4 10 2;", 1, 0);
        wrong("item 0 1 1 1;", 1, 0);
        wrong("4 10 2;", 1, 0);
        wrong(";", 1, 0);
        wrong("hall x", 1, 5);
        wrong("hall 4 10 2 2;", 1, 12);
        wrong("Hall 4 10 2;", 1, 0);
        wrong("hAll 4 10 2;", 1, 0);
        wrong("hallA 4 10 2;", 1, 4);
        wrong("hall 4 10 -2;", 1, 10);
        wrong("hall\t4 10 2;", 1, 4);
        wrong("hall 4\r10 2;", 1, 6);
        wrong("hall 4 10 2;" + (char) 0, 1, 12);
        wrong("hall 4 10 2;" + (char) 225, 1, 12);
        wrongBehind(";", 1, 0);
        wrongBehind("hall 4 10 2;", 1, 0);
        wrongBehind("7;", 1, 0);
        wrongBehind("line 0 1;", 1, 0);
        wrongBehind("items 0 1 1 1;", 1, 0);
        wrongBehind("item 0 1 1;", 1, 10);
        wrongBehind("item 0 1 1 1 1;", 1, 13);
        wrongBehind("order;", 1, 5);
        wrongBehind("order 5 6;", 1, 8);
        wrongBehind("order 5 item 0 1 1 1;", 1, 8);
        wrongBehind("item 0 1 1 1;order 5 line 0;", 1, 27);
        wrongBehind("item 0 1 1 1;order 5 line 0 2 3;", 1, 30);
        wrongBehind("zones;", 1, 5);
        wrongBehind("zones 1 2 3;", 1, 10);
        wrongBehind("zones 1 gap;", 1, 8);
        wrongBehind("buffer 0;", 1, 8);
        wrongBehind("buffer 0 1 2;", 1, 11);
        wrongBehind("times 5;", 1, 7);
        wrongBehind("times 5 6 7;", 1, 10);
        wrongBehind("policy 1;", 1, 7);
        wrongBehind("policy returns;", 1, 7);
        wrongBehind("policy hall;", 1, 7);
        wrongBehind("policy gap gap;", 1, 11);
        wrongBehind("order 5 @", 1, 8);
    }

    private static void promise56And57OutOfRange() {
        wrong("hall 0 10 2;", 2, 5);
        wrong("hall 7 10 2;", 2, 5);
        wrong("hall 4 1 2;", 2, 7);
        wrong("hall 4 21 2;", 2, 7);
        wrong("hall 4 10 0;", 2, 10);
        wrong("hall 4 10 10;", 2, 10);
        wrong("hall 4 99999999999999999999999999 2;", 2, 7);
        wrong("hall 4294967300 10 2;", 2, 5);
        wrongBehind("item 4 1 1 1;", 2, 5);
        wrongBehind("item 0 0 1 1;", 2, 7);
        wrongBehind("item 0 11 1 1;", 2, 7);
        wrongBehind("item 0 1 0 1;", 2, 9);
        wrongBehind("item 0 1 51 1;", 2, 9);
        wrongBehind("item 0 1 1 1000;", 2, 11);
        wrongBehind("order 10000;", 2, 6);
        wrongBehind("order 5 line 0 1;", 2, 13);
        wrongBehind("item 0 1 1 1;order 5 line 1 1;", 2, 26);
        wrongBehind("item 0 1 1 1;order 5 line 0 0;", 2, 28);
        wrongBehind("item 0 1 1 1;order 5 line 0 100;", 2, 28);
        wrongBehind("item 0 1 1 1;order 5 line 0 1 line 0 1;", 2, 35);
        wrongBehind("item 0 1 1 1;order 5 line 0 1 line 00 x;", 2, 35);
        wrongBehind("zones 0;", 2, 6);
        wrongBehind("zones 4;", 2, 6);
        wrongBehind("zones 2 2;", 2, 8);
        wrongBehind("zones 2 1;", 2, 8);
        wrongBehind("zones 2 4;", 2, 8);
        wrong("hall 1 10 2; zones 1;", 2, 19);
        wrongBehind("buffer 2 1;", 2, 7);
        wrongBehind("buffer 0 5;", 2, 9);
        wrongBehind("times 100 1;", 2, 6);
        wrongBehind("times 1 100;", 2, 8);
        wrongBehind("times 1 100@", 2, 8);
    }

    private static void promise56And57TooMany() {
        PickHall x = new PickHall();
        Check.same("24 items", 0, Texts.load(x, HALL + "item 0 1 1 1;".repeat(24)));
        Check.same("24 items", 24, x.itemCount());
        wrongBehind("item 0 1 1 1;".repeat(24) + "item", 3, 24 * 13);
        Check.same("16 orders", 16, Texts.load(x, HALL + "order 1;".repeat(16)));
        wrongBehind("order 1;".repeat(16) + " order;", 3, 16 * 8 + 1);
        String items = "item 0 1 1 1;".repeat(7);
        String lines = "order 1 line 0 1 line 1 1 line 2 1 line 3 1 line 4 1 line 5 1";
        Check.same("6 lines", 1, Texts.load(x, HALL + items + lines + ";"));
        Check.same("6 lines", 6, x.lineCount(0));
        wrongBehind(items + lines + " line 6 1;", 3, items.length() + lines.length() + 1);
        wrongBehind(items + lines + " lines 6 1;", 1, items.length() + lines.length() + 1);
    }

    private static void promise56And57LatestLoad() {
        PickHall x = new PickHall();
        Texts.load(x, "hall 9");
        Check.same("code", 2, x.errorCode());
        Check.same("position", 5, x.errorPosition());
        x.appendText(0);
        Check.same("code until the next load", 2, x.errorCode());
        x.truncateText(0);
        Check.same("position until the next load", 5, x.errorPosition());
        Texts.load(x, HALL);
        Check.same("no error", 0, x.errorCode());
        Check.same("no position", -1, x.errorPosition());
    }
}
