import java.io.IOException;
import java.nio.file.Files;
import java.nio.file.Path;
import java.util.regex.Matcher;
import java.util.regex.Pattern;

/** The examples of README.md, which stand here word by word, answer what is told behind them. */
public final class ReadmeTest {
    private static final Path README = Path.of("README.md");
    private static final Path SOURCE = Path.of("src/test/java/ReadmeTest.java");

    private ReadmeTest() {
    }

    public static void main(String[] args) throws IOException {
        examplesStandHere(Files.readString(README), Document.onOneLine(Files.readString(SOURCE)));
        makingAndAsking();
        textAndBehind();
        Check.close("ReadmeTest");
    }

    private static void examplesStandHere(String readme, String source) {
        Matcher example = Pattern.compile("```java\n(.*?)```", Pattern.DOTALL).matcher(readme);
        int examples = 0;
        while (example.find()) {
            examples++;
            Check.isTrue("stands in ReadmeTest: " + example.group(1), source.contains(Document.onOneLine(example.group(1))));
        }
        Check.same("examples", examples, 8);
    }

    static void feedText(StrikeWheels wheels, String text) {
        for (int at = 0; at < text.length(); at += 20) {
            wheels.feed(four(text, at), four(text, at + 4), four(text, at + 8), four(text, at + 12), four(text, at + 16));
        }
    }

    static int four(String text, int from) {
        int four = 0;
        for (int at = from; at < from + 4; at++) {
            four = four << 8 | (at < text.length() ? text.charAt(at) & 255 : ' ');
        }
        return four;
    }

    private static void makingAndAsking() {
        Check.about("a new object");
        StrikeWheels wheels = new StrikeWheels();
        int last = wheels.size(2);            // 30: the numbers 2 to 30 are laid
        int marks = wheels.size(4);           // 11: 2 3 5 7 11 13 17 19 23 25 29
        int wrong = wheels.firstWrong();      // 25: the smallest mark that is no prime
        int missing = wheels.missing();       // 5: the striker that is missing
        int owned = wheels.add(missing);      // 1: the numbers that it owns now, 25
        int next = wheels.lay(10);            // 2: the marks of the new stretch, 31 and 37
        Check.same("last", last, 30);
        Check.same("marks", marks, 11);
        Check.same("wrong", wrong, 25);
        Check.same("missing", missing, 5);
        Check.same("owned", owned, 1);
        Check.same("next", next, 2);
        Check.same("31", wheels.at(31), 0);
        Check.same("37", wheels.at(37), 0);
    }

    private static void textAndBehind() {
        Check.about("a text and what follows it");
        StrikeWheels wheels = new StrikeWheels();
        String text = "sieve 2; stretch 20; stretch 30; striker 5;";
        feedText(wheels, text);
        int last = wheels.load(text.length());    // 51: LAST
        Check.same("last", last, 51);
        Check.same("errorPosition", wheels.errorPosition(), StrikeWheels.NONE);
        playing(wheels);
        errorsPlace(wheels);
        undoing(wheels);
        restoring(wheels);
        reading(wheels);
    }

    private static void playing(StrikeWheels wheels) {
        String script = "add 7; lay 9; add 5; drop;";
        feedText(wheels, script);
        int done = wheels.play(script.length());    // 2: there is a striker 5 already, so the script ends at the third order
        int refused = wheels.account(1);            // 1: it is counted
        Check.same("done", done, 2);
        Check.same("refused", refused, 1);
    }

    private static void errorsPlace(StrikeWheels wheels) {
        String faulty = "drop; lay 401;";
        feedText(wheels, faulty);
        int answer = wheels.play(faulty.length());    // -12: error code 2, a number that is out of range
        int position = wheels.errorPosition();        // 10: where 401 begins
        Check.same("answer", answer, -12);
        Check.same("position", position, 10);
        Check.same("where 401 begins", faulty.indexOf("401"), 10);
    }

    private static void undoing(StrikeWheels wheels) {
        int lastThen = wheels.drop();         // 51: the stretch is gone that the script laid
        int undoable = wheels.undoCount();    // 2: the drop and the play
        int left = wheels.undo();             // 1: the drop is undone, the play can still be
        int none = wheels.undo();             // 0: so is the play; one more undo would answer NONE
        Check.same("lastThen", lastThen, 51);
        Check.same("undoable", undoable, 2);
        Check.same("left", left, 1);
        Check.same("none", none, 0);
        Check.same("striker 7 is undone, too", wheels.find(7), StrikeWheels.NONE);
        Check.same("one more", wheels.undo(), StrikeWheels.NONE);
    }

    private static void restoring(StrikeWheels wheels) {
        wheels.saveSnapshot();
        wheels.lift(5);
        wheels.wheel(0);
        boolean isRestored = wheels.restoreSnapshot();    // true: striker 5 and WHEEL 2 are back
        Check.isTrue("isRestored", isRestored);
        Check.same("striker 5", wheels.find(5), 0);
        Check.same("WHEEL", wheels.size(0), 2);
        Check.same("undoCount", wheels.undoCount(), 0);
    }

    private static void reading(StrikeWheels wheels) {
        StringBuilder line = new StringBuilder();
        int length = wheels.format(1);
        for (int index = 0; index < length; index++) {
            line.append((char) wheels.formattedByte(index));
        }
        String formatted = line.toString();    // "23 29.31 37.41.43.47.49"
        Check.sameText("formatted", formatted, "23 29.31 37.41.43.47.49");
    }
}
