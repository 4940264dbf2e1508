import java.io.IOException;
import java.lang.reflect.Constructor;
import java.lang.reflect.Field;
import java.lang.reflect.Method;
import java.lang.reflect.Modifier;
import java.nio.file.Files;
import java.nio.file.Path;
import java.util.Arrays;
import java.util.List;
import java.util.TreeSet;
import java.util.regex.Matcher;
import java.util.regex.Pattern;
import java.util.stream.Collectors;

/** The public face as the document gives it, and the rules of LANGUAGE.md that can be seen in the source. */
public final class FaceTest {
    private static final Path DOCUMENT = Path.of("../shared/DOC.md");
    private static final Path SOURCE = Path.of("src/main/java/PickHall.java");

    public static void main(String[] args) throws IOException {
        face();
        members();
        names();
        source();
        Check.end("FaceTest");
    }

    private static void face() throws IOException {
        TreeSet<String> due = new TreeSet<>();
        Matcher matcher = Pattern.compile("    public (int|void) (\\w+)\\((.*?)\\)(?: throws (.*?))?;")
                .matcher(Files.readString(DOCUMENT));
        while (matcher.find()) {
            long parameters = matcher.group(3).isEmpty() ? 0 : matcher.group(3).split(",").length;
            String thrown = matcher.group(4) == null ? "" : matcher.group(4);
            due.add(matcher.group(1) + " " + matcher.group(2) + " " + parameters + " " + thrown);
        }
        TreeSet<String> got = new TreeSet<>();
        for (Method method : PickHall.class.getDeclaredMethods()) {
            if (Modifier.isPublic(method.getModifiers())) {
                boolean ints = Arrays.stream(method.getParameterTypes()).allMatch(type -> type == int.class);
                String thrown = Arrays.stream(method.getExceptionTypes()).map(Class::getSimpleName)
                        .collect(Collectors.joining(", "));
                got.add(method.getReturnType() + " " + method.getName() + " "
                        + (ints ? method.getParameterCount() : -1) + " " + thrown);
            }
        }
        Check.same("methods in the document", 58, due.size());
        Check.same("methods", String.join("\n", due), String.join("\n", got));
    }

    private static void members() {
        Check.same("the class", Modifier.PUBLIC | Modifier.FINAL, PickHall.class.getModifiers());
        Constructor<?>[] constructors = PickHall.class.getDeclaredConstructors();
        Check.same("constructors", 1, constructors.length);
        Check.same("the constructor", Modifier.PUBLIC, constructors[0].getModifiers());
        for (Field field : PickHall.class.getDeclaredFields()) {
            boolean constant = field.getName().equals("NONE") && Modifier.isPublic(field.getModifiers());
            Check.same("field " + field.getName(), 1,
                    constant || Modifier.isPrivate(field.getModifiers()) ? 1 : 0);
        }
        for (Method method : PickHall.class.getDeclaredMethods()) {
            boolean hidden = Modifier.isPrivate(method.getModifiers()) || method.isSynthetic();
            Check.same("method " + method.getName(), 1,
                    hidden || Modifier.isPublic(method.getModifiers()) ? 1 : 0);
        }
        Check.same("classes inside", 1, PickHall.class.getDeclaredClasses().length <= 12 ? 1 : 0);
        for (Class<?> inside : PickHall.class.getDeclaredClasses()) {
            Check.same("class " + inside.getName(), 1, Modifier.isStatic(inside.getModifiers()) ? 1 : 0);
            long fields = Arrays.stream(inside.getDeclaredFields())
                    .filter(field -> !Modifier.isStatic(field.getModifiers())).count();
            Check.same("fields of " + inside.getName(), 1, fields <= 20 ? 1 : 0);
        }
    }

    /** No other method bears the name of a public one, and none has more than seven parameters. */
    private static void names() {
        List<String> open = Arrays.stream(PickHall.class.getDeclaredMethods())
                .filter(method -> Modifier.isPublic(method.getModifiers())).map(Method::getName).toList();
        Check.same("public names", open.size(), open.stream().distinct().count());
        List<Class<?>> classes = new java.util.ArrayList<>(List.of(PickHall.class.getDeclaredClasses()));
        classes.add(PickHall.class);
        for (Class<?> one : classes) {
            for (Method method : one.getDeclaredMethods()) {
                boolean isOpen = one == PickHall.class && Modifier.isPublic(method.getModifiers());
                Check.same("name " + method, 0, !isOpen && open.contains(method.getName()) ? 1 : 0);
                Check.same("parameters of " + method, 1, method.getParameterCount() <= 7 ? 1 : 0);
            }
        }
    }

    private static void source() throws IOException {
        String source = Files.readString(SOURCE);
        for (String word : List.of("import ", "package ", "catch", "try ", "finally", "->", "::", "synchronized",
                "assert", "Exact", "MAX_VALUE", "MIN_VALUE", "System.out", "instanceof", "while (true)", "for (;;)",
                "static {", "protected ", "double", "float")) {
            Check.same("the source has no " + word, -1, source.indexOf(word));
        }
        Check.same("only ASCII", 1, source.chars().allMatch(sign -> sign == '\n' || sign >= 32 && sign < 127) ? 1 : 0);
        methodLengths(source.split("\n"));
    }

    /** A method begins where a line ends with a brace at the indent of members, and ends at the brace below it. */
    private static void methodLengths(String[] lines) {
        for (String indent : List.of("    ", "        ")) {
            int begin = -1;
            for (int k = 0; k < lines.length; k++) {
                boolean member = lines[k].startsWith(indent) && !lines[k].startsWith(indent + " ");
                if (member && lines[k].endsWith(") {")) {
                    begin = k;
                }
                if (lines[k].equals(indent + "}") && begin >= 0) {
                    Check.same("lines of the method in line " + (begin + 1), 1, k - begin <= 60 ? 1 : 0);
                    begin = -1;
                }
            }
        }
    }
}
