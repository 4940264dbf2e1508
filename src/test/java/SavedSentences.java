/** The sentences about the saved states: promises 58 and 59; and what holds for all exceptions. */
final class SavedSentences {
    private SavedSentences() {
    }

    static void run() {
        promise58();
        promise58Everything();
        promise59();
        exceptions();
    }

    private static void promise58() {
        Sentences.test("Promise 58", "- `slot`: 0 or 1; a state that is already saved there is replaced");
        Run.of(Halls.NEW).then("save 0\naddOrder 1\nsave 1\naddOrder 2\nsave 0\naddOrder 3\nrestore 1").is("orderCount", 1)
                .then("restore 0").is("orderCount", 2).then("addOrder 4\nsave 0\nrestore 1\nrestore 0").is("orderCount", 3);
        for (String hall : new String[] {Halls.NEW, Halls.BUSY, Halls.FULL}) {
            Run.of(hall).range("save #", 0, 1, Run.ARGUMENT);
        }
        Sentences.test("Promise 58", "Throws `IllegalArgumentException` if slot is out of range");
        // A refused call saves nothing, in no slot.
        Run.of(Halls.NEW).refuses("save 2", Run.ARGUMENT).refuses("save -1", Run.ARGUMENT).refuses("save MIN", Run.ARGUMENT)
                .refuses("save MAX", Run.ARGUMENT).refuses("restore 0", Run.STATE).refuses("restore 1", Run.STATE);
    }

    private static void promise58Everything() {
        Sentences.test("Promise 58", "Saves everything except the text buffer, the latest error and the saved states.");
        // The text of 8 bytes and the error stay what they are, and slot 1 stays empty.
        Run.of(Halls.BUSY).then("truncateText 4").then("restore 0").is("truncateText 4", 4)
                .refuses("truncateText 5", Run.ARGUMENT).is("errorCode", 2).is("errorPosition", 5)
                .refuses("restore 1", Run.STATE);
        // A state saved in slot 0 does not hold slot 1 as it was then.
        Run.of(Halls.NEW).then("save 0\naddOrder 1\nsave 1\nrestore 0").is("orderCount", 0).then("restore 1")
                .is("orderCount", 1);
        // Everything else comes back, whatever was loaded between.
        Run full = Run.of(Halls.FULL);
        Run other = Run.of(Halls.FULL).then("truncateText 0\ntext hall 1 2 1;item 0 1 1 1;order 5 line 0 1;\nload\naddBatch 1\n"
                + "pickBatch\nsetPolicy 1\nsetTimes 5 5\nsetBuffer 0 0\nsetBuffer 1 1\nrestore 1");
        full.then("truncateText 0\ntext hall 1 2 1;\nload\nrestore 1");
        Check.same("[" + Sentences.current() + "] after a load", full.probe(), other.probe());
        // Nothing at all can be saved, too.
        Run.of(Halls.NEW).then("save 1\nsetLayout 6 20 9\nsetZones 1 2\naddItem 5 20 50 999\naddOrder 9999\naddLine 0 0 99\n"
                + "addBatch 1\nrestore 1").is("itemCount", 0).is("orderCount", 0).is("batchCount", 0).is("aisleCount", 4)
                .are("zoneOf #", 0, 0, 0, 0).is("setLayout 1 2 1", 2);
    }

    private static void promise59() {
        Sentences.test("Promise 59", "Brings back a saved state, which stays saved.");
        Run.of("addOrder 1\nsave 0").then("cancel 0\nrestore 0").is("orderState 0", 0).then("addOrder 2\ncancel 0\nrestore 0")
                .is("orderCount", 1).is("orderState 0", 0).then("restore 0").is("orderCount", 1);
        // An order that was ordered again after it was saved can be ordered again then.
        Run.of(Halls.BUSY).then("save 1").is("reorder 2 1", 9).refuses("reorder 2 1", Run.STATE).then("restore 1")
                .is("reorder 2 1", 9).refuses("reorder 2 1", Run.STATE).refuses("reorder 0 1", Run.STATE);
        Sentences.test("Promise 59", "- `slot`: 0 or 1");
        Run.of(Halls.FULL).range("restore #", 0, 1, Run.ARGUMENT);
        Run.of("save 0\nsave 1").range("restore #", 0, 1, Run.ARGUMENT);
        Sentences.test("Promise 59", "Throws `IllegalArgumentException` if slot is out of range");
        for (String hall : new String[] {Halls.NEW, Halls.BUSY}) {
            Run.of(hall).refuses("restore 2", Run.ARGUMENT).refuses("restore -1", Run.ARGUMENT)
                    .refuses("restore MIN", Run.ARGUMENT).refuses("restore MAX", Run.ARGUMENT);
        }
        Sentences.test("Promise 59", "Throws `IllegalStateException` if nothing is saved there");
        Run.of(Halls.NEW).refuses("restore 0", Run.STATE).refuses("restore 1", Run.STATE);
        Run.of(Halls.BUSY).refuses("restore 1", Run.STATE);
        Run.of("save 1").refuses("restore 0", Run.STATE).then("restore 1");
        // A load does not save anything, and does not take away what is saved.
        Run.of("text hall 2 3 4;\nload").refuses("restore 0", Run.STATE).then("save 0\ntext hall 3 3 3;\nload\nrestore 0")
                .is("aisleCount", 2);
    }

    /** Each test of a refused call looks at this; here are the calls by which two exceptions of a list apply at once. */
    private static void exceptions() {
        Sentences.test("EXCEPTIONS", "A method that throws an exception changes nothing.");
        Run.of(Halls.BUSY).refuses("pickedUnits 9 9", Run.INDEX).refuses("restock 2 4", Run.ARGUMENT)
                .refuses("addBatch 264", Run.STATE).refuses("setZones 1 5", Run.ARGUMENT);
        Sentences.test("EXCEPTIONS", "If several exceptions apply, the one that comes first in the method's list");
        Run.of(Halls.FULL).refuses("setLayout 7 2 1", Run.ARGUMENT)
                .refuses("addItem 6 1 51 1", Run.INDEX).refuses("addItem 0 21 1 1", Run.INDEX)
                .refuses("addItem 0 1 51 1", Run.ARGUMENT).refuses("restock 24 1000", Run.INDEX)
                .refuses("addOrder 10000", Run.ARGUMENT).refuses("addLine 16 24 100", Run.INDEX)
                .refuses("addLine 0 24 1", Run.INDEX).refuses("addLine 0 0 100", Run.ARGUMENT)
                .refuses("setDue 16 10000", Run.INDEX).refuses("setDue 8 10000", Run.ARGUMENT)
                .refuses("addBatch 0", Run.ARGUMENT).refuses("addBatch 65537", Run.ARGUMENT)
                .refuses("sortBatches 3", Run.ARGUMENT).refuses("setBuffer 2 5", Run.INDEX)
                .refuses("routeLength 8 0 4", Run.INDEX).refuses("routeLength 0 3 4", Run.INDEX)
                .refuses("reorder 16 10000", Run.INDEX).refuses("reorder 8 10000", Run.ARGUMENT);
        Run.of(Halls.NEW).refuses("restore 2", Run.ARGUMENT);
    }
}
