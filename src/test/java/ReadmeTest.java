import java.io.IOException;
import java.lang.reflect.Method;
import java.lang.reflect.Modifier;
import java.nio.file.Files;
import java.nio.file.Path;
import java.util.List;
import java.util.regex.Matcher;
import java.util.regex.Pattern;
import java.util.stream.Stream;

/** README.md tells the truth: its calls have the answers that stand behind them, and it names every call and test. */
public final class ReadmeTest {
    private static final Path README = Path.of("README.md");
    private static final Path TESTS = Path.of("src/test/java");

    public static void main(String[] args) throws IOException {
        String page = Files.readString(README);
        List<String> java = blocks(page, "java");
        Check.same("blocks of Java", 2, java.size());
        example(java.get(0));
        String source = Files.readString(TESTS.resolve("ReadmeTest.java")).replaceAll("\\s+", " ");
        Check.same("the method load is the one below", 1, source.contains(java.get(1).replaceAll("\\s+", " ").trim()) ? 1 : 0);
        setup(blocks(page, "setup"));
        names(page);
        Check.end("ReadmeTest");
    }

    private static List<String> blocks(String page, String kind) {
        return Pattern.compile("\n```" + kind + "\n(.*?)\n```\n", Pattern.DOTALL).matcher(page).results()
                .map(found -> found.group(1)).toList();
    }

    private static void example(String block) {
        String[] lines = block.split("\n");
        Check.same("the first line", "PickHall hall = new PickHall();", lines[0]);
        PickHall hall = new PickHall();
        Pattern call = Pattern.compile("hall\\.(\\w+)\\((.*?)\\); +// (-?\\d+|\\w+Exception)\\b.*");
        for (int k = 1; k < lines.length; k++) {
            Matcher matcher = call.matcher(lines[k]);
            Check.same("a call: " + lines[k], 1, matcher.matches() ? 1 : 0);
            if (matcher.matches()) {
                String written = matcher.group(1) + " " + matcher.group(2).replace(",", "");
                Check.same(lines[k], matcher.group(3), Calls.answer(hall, written));
            }
        }
    }

    private static void setup(List<String> texts) {
        Check.same("setup texts", 1, texts.size());
        PickHall hall = new PickHall();
        Check.same("orders of the setup", 2, load(hall, texts.get(0)));
        Check.same("aisles", 4, hall.aisleCount());
        Check.same("items", 2, hall.itemCount());
        Check.same("lines", 2, hall.lineCount(1));
        Check.same("zone of aisle 2", 1, hall.zoneOf(2));
        Check.same("policy", 1, hall.setPolicy(0));
        Check.same("times", 501, hall.setTimes(0, 1));
        Check.same("a wrong text", PickHall.NONE, load(hall, "hall 4 10 2;item 4 1 1 1;"));
        Check.same("its error", 2, hall.errorCode());
        Check.same("its position", 17, hall.errorPosition());
        // With no, one, two and three spaces behind it.
        for (int k = 0; k < 4; k++) {
            Check.same("a short text", 1, load(hall, "hall 4 10 2;" + " ".repeat(k) + "order 5;"));
        }
    }

    static int load(PickHall hall, String text) {
        String filled = text + "   ";
        for (int k = 0; k < text.length(); k += 4) {
            int four = 0;
            for (int b = k; b < k + 4; b++) {
                four = four << 8 | filled.charAt(b);
            }
            hall.appendText(four);
        }
        return hall.load();
    }

    private static void names(String page) throws IOException {
        for (Method method : PickHall.class.getDeclaredMethods()) {
            if (Modifier.isPublic(method.getModifiers())) {
                Check.same("README.md names " + method.getName(), 1, page.contains("`" + method.getName() + "`") ? 1 : 0);
            }
        }
        try (Stream<Path> files = Files.list(TESTS)) {
            files.map(file -> file.getFileName().toString().replace(".java", "")).filter(name -> name.endsWith("Test"))
                    .forEach(name -> Check.same("README.md names " + name, 1, page.contains("`" + name + "`") ? 1 : 0));
        }
    }
}
