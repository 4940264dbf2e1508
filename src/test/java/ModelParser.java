import java.math.BigInteger;
import java.util.ArrayList;
import java.util.List;
import java.util.regex.Matcher;
import java.util.regex.Pattern;

/** Reads a setup text for Model: all tokens first, then the grammar over them. */
final class ModelParser {
    record Token(String text, int position) {
    }

    private static final class Wrong extends RuntimeException {
        private static final long serialVersionUID = 1L;
    }

    private final List<Token> tokens = new ArrayList<>();
    private int at = 0;
    int code = 0;
    int position = -1;

    ModelParser(String text) {
        Matcher matcher = Pattern.compile("[a-z]+|[0-9]+|[^ \\n]", Pattern.DOTALL).matcher(text);
        while (matcher.find()) {
            tokens.add(new Token(matcher.group(), matcher.start()));
        }
        tokens.add(new Token("", text.length()));
    }

    Model.State read() {
        try {
            return setup();
        } catch (Wrong e) {
            return null;
        }
    }

    private Wrong wrong(int newCode) {
        code = newCode;
        position = tokens.get(at).position;
        return new Wrong();
    }

    private boolean sees(String word) {
        return tokens.get(at).text.equals(word);
    }

    private void expect(String word) {
        if (!sees(word)) {
            throw wrong(1);
        }
        at++;
    }

    private boolean seesNumber() {
        return tokens.get(at).text.matches("[0-9]+");
    }

    private int number(int low, int high) {
        if (!seesNumber()) {
            throw wrong(1);
        }
        BigInteger value = new BigInteger(tokens.get(at).text);
        if (value.compareTo(BigInteger.valueOf(low)) < 0 || value.compareTo(BigInteger.valueOf(high)) > 0) {
            throw wrong(2);
        }
        at++;
        return value.intValueExact();
    }

    private Model.State setup() {
        Model.State s = new Model.State();
        expect("hall");
        s.aisles = number(1, 6);
        s.depth = number(2, 20);
        s.width = number(1, 9);
        expect(";");
        while (!sees("")) {
            statement(s);
            expect(";");
        }
        return s;
    }

    private void statement(Model.State s) {
        switch (tokens.get(at).text) {
            case "item" -> {
                if (s.items.size() == 24) {
                    throw wrong(3);
                }
                at++;
                s.items.add(new Model.Item(number(0, s.aisles - 1), number(1, s.depth), number(1, 50)));
                s.stock.add(number(0, 999));
            }
            case "order" -> {
                if (s.orders.size() == 16) {
                    throw wrong(3);
                }
                at++;
                order(s);
            }
            case "zones" -> {
                at++;
                int second = number(1, s.aisles - 1);
                s.zoneStarts = new ArrayList<>(List.of(0, second));
                if (seesNumber()) {
                    s.zoneStarts.add(number(second + 1, s.aisles - 1));
                }
            }
            case "buffer" -> {
                at++;
                s.buffer[number(0, 1)] = number(0, 4);
            }
            case "times" -> {
                at++;
                s.setup = number(0, 99);
                s.perItem = number(0, 99);
            }
            case "policy" -> {
                at++;
                int policy = List.of("return", "sshape", "gap", "combined").indexOf(tokens.get(at).text);
                if (policy < 0) {
                    throw wrong(1);
                }
                s.policy = policy;
                at++;
            }
            default -> throw wrong(1);
        }
    }

    private void order(Model.State s) {
        Model.Order order = new Model.Order();
        order.due = number(0, 9999);
        while (sees("line")) {
            if (order.lines.size() == 6) {
                throw wrong(3);
            }
            at++;
            int item = number(0, s.items.size() - 1);
            if (order.lines.stream().anyMatch(line -> line.item == item)) {
                at--;
                throw wrong(2);
            }
            order.lines.add(new Model.Line(item, number(1, 99)));
        }
        s.orders.add(order);
    }
}
