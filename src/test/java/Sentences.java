import java.io.IOException;
import java.nio.file.Files;
import java.nio.file.Path;
import java.util.ArrayList;
import java.util.List;
import java.util.TreeSet;
import java.util.regex.Matcher;
import java.util.regex.Pattern;

/** The sentences of the document, and which of them a test has been written for. */
final class Sentences {
    private static final Path DOCUMENT = Path.of("../shared/DOC.md");
    private static final List<String> SECTIONS = List.of("HALL AND ITEMS", "ORDERS", "BATCHES", "ZONES AND ROUTES",
            "SCHEDULE", "PICKING", "SETUP TEXTS", "EXCEPTIONS");

    /** What a sentence that names a boundary case has in it, beside the lists of exceptions. */
    private static final Pattern BOUNDARY = Pattern.compile("[0-9]|\\b(no|none|NONE|not|nothing|without|empty|only|last"
            + "|most|least|fewer|greatest|lowest|highest|largest|several|equal|odd|first|one|up to|Otherwise|all|ends"
            + "|once|again|previous|Throws|disappears|stays?|leaves|depth|maximal|between|four|any)\\b");

    private static final List<String> ALL = new ArrayList<>();
    private static final TreeSet<Integer> TESTED = new TreeSet<>();
    private static String current = "";

    private Sentences() {
    }

    static void read() throws IOException {
        String section = "";
        Pattern promise = Pattern.compile("## (Promise \\d+):.*");
        for (String line : Files.readAllLines(DOCUMENT)) {
            Matcher matcher = promise.matcher(line);
            if (matcher.matches()) {
                section = matcher.group(1);
            } else if (line.startsWith("#") || line.equals("The constants:")) {
                section = "";
            } else if (SECTIONS.contains(line)) {
                section = line;
            } else if (!section.isEmpty() && !line.isBlank() && !line.startsWith("`") && !line.startsWith("----")) {
                addSentences(section, line);
            }
        }
    }

    private static void addSentences(String section, String line) {
        for (String sentence : line.split("(?<=\\.) +(?=[A-Z\"])")) {
            ALL.add(section + ": " + sentence.trim().replaceAll(" +", " "));
        }
    }

    /** The checks that follow are about the sentence of the section that begins like this. */
    static void test(String section, String beginning) {
        current = section + ": " + beginning;
        int found = 0;
        for (int k = 0; k < ALL.size(); k++) {
            if (ALL.get(k).startsWith(current)) {
                TESTED.add(k);
                found++;
            }
        }
        Check.same("sentences that begin with [" + current + "]", 1, found);
    }

    static String current() {
        return current;
    }

    /** Each sentence that names a boundary case must have been tested. */
    static void end() {
        for (int promise = 1; promise <= 59; promise++) {
            String beginning = "Promise " + promise + ": ";
            Check.same(beginning + "is in the document", 1, ALL.stream().anyMatch(s -> s.startsWith(beginning)) ? 1 : 0);
        }
        for (int k = 0; k < ALL.size(); k++) {
            boolean due = BOUNDARY.matcher(ALL.get(k).substring(ALL.get(k).indexOf(": "))).find();
            Check.same("tests of the sentence [" + ALL.get(k) + "]", 1, TESTED.contains(k) || !due ? 1 : 0);
        }
        System.out.println(TESTED.size() + " of " + ALL.size() + " sentences have a test of their own");
    }
}
