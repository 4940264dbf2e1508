import java.io.IOException;
import java.nio.file.Files;
import java.nio.file.Path;
import java.util.ArrayList;
import java.util.List;
import java.util.TreeSet;
import java.util.regex.Matcher;
import java.util.regex.Pattern;

/** The sentences of the document, and which of them a test has been written for. */
final class Sentences {
    private static final Path DOCUMENT = Path.of("../shared/DOC.md");
    private static final List<String> SECTIONS = List.of("HALL AND ITEMS", "ORDERS", "BATCHES", "ZONES AND ROUTES",
            "SCHEDULE", "PICKING", "SETUP TEXTS", "EXCEPTIONS", "The constants:");

    private static final List<String> ALL = new ArrayList<>();
    private static final TreeSet<Integer> TESTED = new TreeSet<>();
    private static String current = "";

    private Sentences() {
    }

    /** From the first line to the last; signatures stand in backquotes, and FaceTest compares them and the face. */
    static void read() throws IOException {
        String section = "";
        boolean code = false;
        Pattern heading = Pattern.compile("## (Promise \\d+|[^:]+).*");
        for (String line : Files.readAllLines(DOCUMENT)) {
            Matcher matcher = heading.matcher(line);
            code ^= line.startsWith("```");
            if (matcher.matches()) {
                section = matcher.group(1);
            } else if (SECTIONS.contains(line)) {
                section = line;
            } else if (!code && !line.isBlank() && !line.startsWith("`") && !line.startsWith("----")
                    && !line.startsWith("# ")) {
                addSentences(section, line);
            }
        }
    }

    private static void addSentences(String section, String line) {
        for (String sentence : line.split("(?<=\\.) +(?=[A-Z\"])")) {
            ALL.add(section + ": " + sentence.trim().replaceAll(" +", " "));
        }
    }

    /** The checks that follow are about the sentence of the section that begins like this. */
    static void test(String section, String beginning) {
        current = section + ": " + beginning;
        int found = 0;
        for (int k = 0; k < ALL.size(); k++) {
            if (ALL.get(k).startsWith(current)) {
                TESTED.add(k);
                found++;
            }
        }
        Check.same("sentences that begin with [" + current + "]", 1, found);
    }

    /** Nothing that a program does can break this sentence. */
    static void free(String section, String beginning) {
        test(section, beginning);
    }

    static String current() {
        return current;
    }

    /** Each sentence must have been tested. */
    static void end() {
        for (int promise = 1; promise <= 59; promise++) {
            String beginning = "Promise " + promise + ": ";
            Check.same(beginning + "is in the document", 1, ALL.stream().anyMatch(s -> s.startsWith(beginning)) ? 1 : 0);
        }
        for (int k = 0; k < ALL.size(); k++) {
            Check.same("tests of the sentence [" + ALL.get(k) + "]", 1, TESTED.contains(k) ? 1 : 0);
        }
        System.out.println(TESTED.size() + " of " + ALL.size() + " sentences have a test of their own");
    }
}
