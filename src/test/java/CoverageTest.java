import java.io.IOException;
import java.nio.file.Files;
import java.nio.file.Path;
import java.util.ArrayList;
import java.util.List;
import java.util.regex.Matcher;
import java.util.regex.Pattern;
import java.util.stream.Stream;

/** Every word of the document stands in a sentence that some test begins with, or in a part that is told here. */
public final class CoverageTest {
    private static final Path TESTS = Path.of("src/test/java");
    private static final Pattern QUOTE = Pattern.compile("Edges\\.(sentence|promise)\\(\\s*(?:(\\d+),\\s*)?");
    private static final Pattern LITERAL = Pattern.compile("\"((?:[^\"\\\\]|\\\\.)*)\"\\s*([+,)])\\s*");
    private static final Pattern WORD = Pattern.compile("[A-Za-z0-9]+");

    /** What is no sentence to test, or what FaceTest compares word by word. */
    private static final String[] NO_SENTENCES = {
        "# StrikeWheels ## What it is", "## The public face ```java .*? ```", "## Terms", "### Stretches",
        "\\. Wheel, strikers, marks WHEEL", "### Text", "Tokens:", "```text", "### Operations",
        "## Promise \\d+: [A-Za-z ]+ `[^`]*`:", FaceTest.PART, "## Not promised .*"};

    private final String document = Document.whole();
    private final boolean[] isCovered = new boolean[document.length()];
    private int quotes = 0;

    private CoverageTest() {
    }

    public static void main(String[] args) throws IOException {
        CoverageTest coverage = new CoverageTest();
        coverage.readTests();
        coverage.leaveOut();
        Check.isTrue("the tests quote the document", coverage.quotes > 200);
        Check.sameText("words of the document in no test's sentence", coverage.wordsLeft(), "");
        Check.close("CoverageTest");
    }

    private void readTests() throws IOException {
        List<Path> places = new ArrayList<>();
        try (Stream<Path> found = Files.list(TESTS)) {
            found.filter(place -> place.toString().endsWith("Test.java")).sorted().forEach(places::add);
        }
        for (Path place : places) {
            if (!place.endsWith("CoverageTest.java")) {
                readQuotes(place.toString(), Files.readString(place));
            }
        }
    }

    private void readQuotes(String place, String source) {
        Matcher quote = QUOTE.matcher(source);
        while (quote.find()) {
            int promise = quote.group(2) == null ? 0 : Integer.parseInt(quote.group(2));
            Matcher literal = LITERAL.matcher(source);
            StringBuilder words = new StringBuilder();
            String behind = "+";
            int at = quote.end();
            while (!behind.equals(")") && literal.find(at) && literal.start() == at) {
                words.append(literal.group(1).replace("\\\"", "\""));
                behind = literal.group(2);
                at = literal.end();
                if (!behind.equals("+")) {
                    cover(Document.onOneLine(words.toString()), promise);
                    words.setLength(0);
                }
            }
            Check.sameText(place + " writes its sentences out: " + source.substring(quote.start(), at), behind, ")");
        }
    }

    private void cover(String words, int promise) {
        quotes++;
        int begin = promise == 0 ? 0 : Document.beginOf(promise);
        int end = promise == 0 ? document.length() : Document.endOf(promise);
        int at = document.indexOf(words, begin);
        Check.isTrue("stands in the document: " + words, at >= 0 && at + words.length() <= end);
        if (at >= 0) {
            coverFromTo(at, at + words.length());
        }
    }

    private void coverFromTo(int from, int to) {
        for (int at = from; at < to; at++) {
            isCovered[at] = true;
        }
    }

    private void leaveOut() {
        for (String pattern : NO_SENTENCES) {
            Matcher matcher = Pattern.compile(pattern).matcher(document);
            Check.isTrue("the document has " + pattern, matcher.find());
            for (boolean isFound = true; isFound; isFound = matcher.find()) {
                coverFromTo(matcher.start(), matcher.end());
            }
        }
    }

    private String wordsLeft() {
        StringBuilder left = new StringBuilder();
        Matcher word = WORD.matcher(document);
        int end = 0;
        while (word.find()) {
            if (!isCovered[word.start()]) {
                left.append(word.start() > end + 3 ? "\n" : " ").append(word.group());
                end = word.end();
            }
        }
        return left.toString();
    }
}
