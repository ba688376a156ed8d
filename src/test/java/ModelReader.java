import java.math.BigInteger;
import java.util.ArrayList;
import java.util.List;
import java.util.Map;
import java.util.regex.Matcher;
import java.util.regex.Pattern;

/** The document's grammar, read with the Java library's own means, to compare the program with. */
final class ModelReader {
    private static final Pattern TOKEN = Pattern.compile("[a-z]+|[0-9]+|[^ \\n]", Pattern.DOTALL);

    /** How many numbers an order takes, and their range. */
    private static final Map<String, int[]> ORDERS = Map.of(
            "lay", new int[] {1, 1, 400}, "drop", new int[] {0, 0, 0}, "add", new int[] {1, 2, 120},
            "lift", new int[] {1, 2, 120}, "first", new int[] {1, 2, 120}, "swap", new int[] {2, 2, 120},
            "wheel", new int[] {1, 0, 4}, "fill", new int[] {1, 1, 30});

    private static final class Wrong extends RuntimeException {
        private static final long serialVersionUID = 1L;
        private final int code;
        private final int at;

        Wrong(int code, int at) {
            this.code = code;
            this.at = at;
        }
    }

    private record Token(String text, int at) {
    }

    int wheel = 0;
    final List<Integer> rooms = new ArrayList<>();
    final List<Integer> row = new ArrayList<>();
    final List<Model.Order> orders = new ArrayList<>();
    int code = 0;
    int position = -1;

    private final List<Token> tokens = new ArrayList<>();
    private int next = 0;

    private ModelReader(String text) {
        Matcher matcher = TOKEN.matcher(text);
        while (matcher.find()) {
            tokens.add(new Token(matcher.group(), matcher.start()));
        }
        tokens.add(new Token("", text.length()));
    }

    static ModelReader ofText(String text) {
        ModelReader reader = new ModelReader(text);
        try {
            reader.readText();
        } catch (Wrong wrong) {
            reader.code = wrong.code;
            reader.position = wrong.at;
        }
        return reader;
    }

    static ModelReader ofScript(String text) {
        ModelReader reader = new ModelReader(text);
        try {
            reader.readScript();
        } catch (Wrong wrong) {
            reader.code = wrong.code;
            reader.position = wrong.at;
        }
        return reader;
    }

    private Token peek() {
        return tokens.get(next);
    }

    private Token take(boolean isAllowed) {
        if (!isAllowed) {
            throw new Wrong(1, peek().at());
        }
        return tokens.get(next++);
    }

    private void take(String text) {
        take(peek().text().equals(text));
    }

    private int number(int least, int most) {
        Token token = take(peek().text().matches("[0-9]+"));
        BigInteger value = new BigInteger(token.text());
        if (value.compareTo(BigInteger.valueOf(least)) < 0 || value.compareTo(BigInteger.valueOf(most)) > 0) {
            throw new Wrong(2, token.at());
        }
        return value.intValueExact();
    }

    private void readText() {
        take("sieve");
        wheel = number(0, 4);
        take(";");
        while (peek().text().equals("stretch")) {
            int at = take(true).at();
            if (rooms.size() == 12) {
                throw new Wrong(4, at);
            }
            rooms.add(number(1, 400));
            take(";");
        }
        while (!peek().text().isEmpty()) {
            int at = peek().at();
            take("striker");
            if (row.size() == 30) {
                throw new Wrong(4, at);
            }
            int place = peek().at();
            int d = number(2, 120);
            if (row.contains(d)) {
                throw new Wrong(3, place);
            }
            row.add(d);
            take(";");
        }
    }

    private void readScript() {
        while (!peek().text().isEmpty()) {
            Token word = take(ORDERS.containsKey(peek().text()));
            if (orders.size() == 20) {
                throw new Wrong(4, word.at());
            }
            int[] form = ORDERS.get(word.text());
            int a = form[0] > 0 ? number(form[1], form[2]) : 0;
            int b = form[0] > 1 ? number(form[1], form[2]) : 0;
            take(";");
            orders.add(new Model.Order(word.text(), a, b));
        }
    }
}
