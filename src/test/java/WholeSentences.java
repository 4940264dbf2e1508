import java.io.IOException;
import java.nio.file.Files;
import java.nio.file.Path;
import java.util.ArrayList;
import java.util.List;
import java.util.regex.Matcher;
import java.util.regex.Pattern;

/** What the document says before and behind its promises. */
final class WholeSentences {
    private WholeSentences() {
    }

    static void run() throws IOException {
        whatItIs();
        manyCalls();
        constants();
        signatures();
        free();
    }

    /** One day in a hall of two zones, from the orders to the shortages. */
    private static void whatItIs() {
        Sentences.free("What it is", "A planner for order picking in a warehouse.");
        Sentences.test("What it is", "It groups orders into batches by seeds, computes walking routes by four policies");
        Run x = Run.of("setLayout 4 9 2\nsetZones 2 -1\naddItem 0 3 2 5\naddItem 1 9 1 10\naddItem 2 1 4 10\naddItem 3 5 3 2\n"
                + "addOrder 60\naddLine 0 0 4\naddOrder 20\naddLine 1 2 3\naddOrder 90\naddLine 2 0 3\naddLine 2 1 1\n"
                + "addOrder 25\naddLine 3 3 3\naddLine 3 2 1");
        // Order 1 is due first, and order 3 has one new aisle as order 0 has, but is due before it.
        x.is("makeBatches 2 99 0", 2).batches(10, 5);
        // Batch 0 in zone 1: places 1 and 5. Batch 1 in zone 0: places 3 and 9.
        x.lengths(0, 0, 0, 0, 0, 0).lengths(0, 1, 4 + 12, 4 + 20, 4 + 20, 4 + 12)
                .lengths(1, 0, 4 + 24, 4 + 20, 4 + 20, 4 + 20).lengths(1, 1, 0, 0, 0, 0)
                .are("bestPolicy #", 0, 1).is("batchRoute 1", 28);
        // Without a buffer batch 1 is ready at 30, and leaves zone 0 then, since batch 0 has left zone 1 at 18.
        x.then("setBuffer 0 0").are("leaveTime 0 #", 0, 18).are("leaveTime 1 #", 30, 30).is("blockedTime 0", 0)
                .then("setPolicy 1").are("leaveTime 0 #", 0, 26).are("leaveTime 1 #", 26, 26).is("blockedTime 0", 0)
                .then("setTimes 9 1").are("leaveTime 0 #", 0, 35).are("leaveTime 1 #", 35, 35)
                .then("setTimes 0 0\nsetPolicy 0").are("leaveTime 0 #", 0, 16).are("leaveTime 1 #", 28, 28);
        // Order 0 alone is ready at 7, and blocked until batch 0 has left zone 1, if there is no room between the zones.
        x.then("setTimes 0 1").copy().then("cancel 2").is("workTime 1 0", 7).is("leaveTime 1 0", 18).is("blockedTime 0", 11)
                .then("setBuffer 0 1").is("leaveTime 1 0", 7).is("blockedTime 0", 0);
        // Complete are the batches at 18 and 30, and at 48 and 30 the other way round, which is as good in the end.
        x.is("totalTardiness", 0).then("setDue 0 19\nsetDue 2 19").is("sortBatches 2", 22).batches(10, 5)
                .then("setDue 1 48\nsetDue 3 48").is("sortBatches 2", 22).batches(10, 5)
                .then("setDue 1 17\nsetDue 0 0\nsetDue 2 0\nsortBatches 0").batches(5, 10).is("sortBatches 2", 60 + 1).batches(10, 5)
                .is("lateOrders", 7).is("meanTardinessNumerator", 61).is("meanTardinessDenominator", 4);
        // Two of three units of item 3 are there, and five of seven of item 0.
        x.is("pickBatch", 3 + 2 + 1).is("shortUnits 3 0", 1).is("pickBatch", 4 + 1 + 1).are("shortUnits 2 #", 2, 0)
                .is("totalOrdered", 7 + 8).is("totalPicked", 6 + 6).is("reorder 2 99", 4).is("reorder 3 99", 5);
    }

    private static void manyCalls() {
        Sentences.test("What it is", "An object is used for at most 512 calls after it has been made");
        // The calls 1 to 510 are two texts of 600 bytes, each with a load, and 208 calls more; the last ones are right too.
        PickHall x = new PickHall();
        int calls = 0;
        for (int round = 0; round < 2; round++) {
            String text = "hall 3 4 5;" + "order 1;".repeat(16 - round) + " ".repeat(461 + 8 * round);
            for (int k = 0; k < 600; k += 4) {
                int four = text.charAt(k) << 24 | text.charAt(k + 1) << 16 | text.charAt(k + 2) << 8 | text.charAt(k + 3);
                Check.same("call " + calls, k + 4, x.appendText(four));
                calls++;
            }
            Check.same("call " + calls, 16 - round, x.load());
            calls++;
        }
        for (int k = 0; calls < 510; k++) {
            x.save(k % 2);
            x.restore(k % 2);
            calls += 2;
        }
        Check.same("call 511", 15, x.addOrder(7));
        Check.same("call 512", 7, x.due(15));
    }

    private static void constants() {
        Sentences.test("The constants:", "- `NONE = -1`: There is none.");
        Check.same("NONE", -1, PickHall.NONE);
        Run.of(Halls.NEW).is("load", PickHall.NONE).then("text hall 1 2 1;\nload").is("errorPosition", PickHall.NONE)
                .then("setLayout 3 2 1").is("setZones 1 " + PickHall.NONE, 2).is("setZones " + PickHall.NONE + " " + PickHall.NONE, 1);
    }

    /** The source has the face of the document, and each promise has the signature of its method. */
    private static void signatures() throws IOException {
        Sentences.test("The constants:", "The constructor and the methods follow, a promise each: the signature, then what it does.");
        String document = Files.readString(Path.of("../shared/DOC.md"));
        String source = Files.readString(Path.of("src/main/java/PickHall.java")).replaceAll("\\s+", " ");
        List<String> face = found("\n    public ([^=]*?);", document);
        List<String> promises = found("\n## Promise \\d+: .*\n\n`(.*)`\n", document);
        Check.same("promises", 59, promises.size());
        Check.same("signatures", String.join("\n", face), String.join("\n", promises));
        for (String signature : face) {
            Check.same("in the source: " + signature, 1, source.split(Pattern.quote("public " + signature + " {"), -1).length - 1);
        }
    }

    private static List<String> found(String pattern, String text) {
        List<String> all = new ArrayList<>();
        Matcher matcher = Pattern.compile(pattern).matcher(text);
        while (matcher.find()) {
            all.add(matcher.group(1));
        }
        return all;
    }

    private static void free() {
        Sentences.free("Not promised", "How the state is held inside the object is free");
        Sentences.free("Not promised", "Use of one object from several threads at once is not promised");
        Sentences.free("Not promised", "Nothing is promised beyond the answers and state changes described above");
    }
}
