import java.io.IOException;
import java.nio.file.Files;
import java.nio.file.Path;

/** The document, with one blank between two words, as the tests quote it. */
final class Document {
    private static final Path PLACE = Path.of("../shared/DOC.md");

    private static String whole = "";

    private Document() {
    }

    static String whole() {
        if (whole.isEmpty()) {
            whole = onOneLine(read());
        }
        return whole;
    }

    private static String read() {
        try {
            return Files.readString(PLACE);
        } catch (IOException failure) {
            return "unreadable";
        }
    }

    static String onOneLine(String text) {
        return text.replaceAll("\\s+", " ").trim();
    }

    /** Where the text of a promise begins, its heading included. */
    static int beginOf(int promise) {
        return Math.max(0, whole().indexOf("## Promise " + promise + ": "));
    }

    static int endOf(int promise) {
        int end = whole().indexOf(" ## ", beginOf(promise));
        return end < 0 ? whole().length() : end;
    }

    static String promise(int number) {
        return whole().substring(beginOf(number), endOf(number));
    }

    static int times(String words, String text) {
        String sought = onOneLine(words);
        int times = 0;
        for (int at = text.indexOf(sought); at >= 0; at = text.indexOf(sought, at + 1)) {
            times++;
        }
        return times;
    }
}
