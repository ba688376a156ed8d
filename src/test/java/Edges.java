/** What the tests of boundary cases have in common: sentences of the document, and what a refused call leaves. */
final class Edges {
    static final int LEAST = Integer.MIN_VALUE;
    static final int MOST = Integer.MAX_VALUE;
    static final int NO_SUCH_ELEMENT = 1;
    static final int ILLEGAL_ARGUMENT = 2;

    interface Maker {
        StrikeWheels made();
    }

    interface Use {
        long of(StrikeWheels x);
    }

    interface UseOfNumber {
        long of(StrikeWheels x, int number);
    }

    private Edges() {
    }

    /** Begins the test of a sentence of the document, or of a part of one, which must stand there word by word, and once. */
    static void sentence(String words) {
        Check.about("\"" + words + "\"");
        Check.same("times that it stands in the document", Document.times(words, Document.whole()), 1);
    }

    /** Begins the test of sentences, or of parts of them, that must stand in a promise word by word, each of them once. */
    static void promise(int number, String... sentences) {
        String promise = Document.promise(number);
        Check.about("promise " + number + ", \"" + String.join(" .. ", sentences) + "\"");
        for (String words : sentences) {
            Check.same("times that \"" + words + "\" stands there", Document.times(words, promise), 1);
        }
    }

    // ---- objects to try calls on

    /** As many times the same stretch. */
    static String stretches(int many, int room) {
        return ("stretch " + room + ";").repeat(many);
    }

    /** Strikers with one D behind the other. */
    static String strikers(int from, int many) {
        StringBuilder text = new StringBuilder();
        for (int d = from; d < from + many; d++) {
            text.append("striker ").append(d).append(";");
        }
        return text.toString();
    }

    /** Has something of all that a call could change, but an empty buffer: LAST 62, the row 3 9 5 7, two undoable operations. */
    static StrikeWheels busy() {
        StrikeWheels x = Check.of("sieve 1;stretch 40;stretch 9;striker 3;striker 9;striker 5;");
        x.lay(12);
        x.saveSnapshot();
        x.add(7);
        x.add(7);
        x.wheel(2);
        x.undo();
        x.format(1);
        Check.play(x, "drop;oh");
        return x;
    }

    /** As busy, with the 20 bytes of a text in the buffer. */
    static StrikeWheels busyAndFed() {
        StrikeWheels x = busy();
        Check.feed(x, "sieve 3;stretch 31; ");
        return x;
    }

    static StrikeWheels withAllStretches() {
        StrikeWheels x = Check.of("sieve 1;" + stretches(11, 3) + "striker 3;");
        x.lay(400);
        return x;
    }

    static StrikeWheels withAllStrikers() {
        StrikeWheels x = Check.of("sieve 0;stretch 30;" + strikers(50, 29));
        x.add(3);
        return x;
    }

    static StrikeWheels withoutAny() {
        StrikeWheels x = Check.of("sieve 2;stretch 5;striker 2;");
        x.drop();
        x.lift(2);
        return x;
    }

    // ---- what a call leaves as it was

    /** WHEEL, the stretches, the row and what they make. */
    private static String state(StrikeWheels x) {
        StringBuilder text = new StringBuilder("wheel ").append(x.size(0)).append(" stretches");
        int stretches = x.size(1);
        for (int stretch = 0; stretch < stretches; stretch++) {
            text.append(' ').append(x.stretch(stretch, 1));
        }
        text.append(" row");
        int strikers = x.size(3);
        for (int striker = 0; striker < strikers; striker++) {
            text.append(' ').append(x.striker(striker, 0));
        }
        return text.append(" last ").append(x.size(2)).append(" marks ").append(x.size(4))
                .append(" owned ").append(x.size(9)).append('\n').toString();
    }

    private static String textOfFormat(StrikeWheels x) {
        StringBuilder text = new StringBuilder("text ");
        int sign = x.formattedByte(0);
        for (int index = 1; sign != -1 && index < 40; index++) {
            text.append((char) sign);
            sign = x.formattedByte(index);
        }
        return text.append('\n').toString();
    }

    /** All that calls can tell of an object; it is used up by it. */
    static String picture(StrikeWheels x, int refusedSince, boolean hasErrorPosition) {
        StringBuilder text = new StringBuilder(state(x)).append(textOfFormat(x)).append("accounts");
        for (int what = 0; what <= 4; what++) {
            text.append(' ').append(x.account(what) - (what == 1 ? refusedSince : 0));
        }
        text.append(" error ").append(hasErrorPosition ? x.errorPosition() : 0);
        int undoable = x.undoCount();
        text.append("\nundoable ").append(undoable).append('\n');
        for (int left = undoable; left > 0; left--) {
            text.append(x.undo()).append(' ').append(state(x));
        }
        text.append("snapshot ").append(x.restoreSnapshot() ? state(x) : "none\n");
        int filled = x.feed(0x20202020, 0x20202020, 0x20202020, 0x20202020, 0x20202020);
        text.append("buffer ").append(filled).append('\n');
        text.append("load ").append(x.load(filled == -1 ? 600 : filled)).append(' ').append(state(x));
        return text.toString();
    }

    /** A call that throws, on an object that is as full of things as there are, changes nothing. */
    static void throwsAndKeeps(String what, int kind, Maker maker, Use call) {
        StrikeWheels x = maker.made();
        Check.same(what + " throws", Check.thrownBy(() -> call.of(x)), kind);
        Check.sameText(what + " changes nothing", picture(x, 0, true), picture(maker.made(), 0, true));
    }

    /** An operation that is refused changes nothing but account 1. */
    static void refusesAndKeeps(String what, int code, Maker maker, Use call) {
        StrikeWheels x = maker.made();
        Check.same(what, call.of(x), code);
        Check.sameText(what + " changes nothing but account 1", picture(x, 1, true), picture(maker.made(), 0, true));
    }

    /** A call that tells something changes nothing. */
    static void tellsAndKeeps(String what, Maker maker, Use call) {
        StrikeWheels x = maker.made();
        call.of(x);
        Check.sameText(what + " changes nothing", picture(x, 0, true), picture(maker.made(), 0, true));
    }

    /** A text or a script with an error changes nothing but the buffer, which is empty then, and the error position. */
    static void errorAndKeeps(String text, boolean isScript, int code, int position) {
        String what = (isScript ? "play of " : "load of ") + text;
        StrikeWheels x = busy();
        Check.same(what, isScript ? Check.play(x, text) : Check.load(x, text), -10 - code);
        Check.same("error position of " + what, x.errorPosition(), position);
        Check.sameText(what + " changes nothing but the buffer and the error position",
                picture(x, 0, false), picture(busy(), 0, false));
    }

    // ---- ranges of parameters

    /** Of a parameter with a range the ends are taken; one less, one more and what is far out throw and change nothing. */
    static void range(String what, int least, int most, Maker maker, UseOfNumber call) {
        for (int number : new int[] {least, most}) {
            StrikeWheels x = maker.made();
            Check.same(what + " takes " + number + ": exception", Check.thrownBy(() -> call.of(x, number)), 0);
        }
        for (int number : new int[] {least - 1, most + 1, LEAST, MOST, -most, -1 - most}) {
            if (number < least || number > most) {
                throwsAndKeeps(what + " with " + number, ILLEGAL_ARGUMENT, maker, x -> call.of(x, number));
            }
        }
    }

    /** The first and the last one of some that are numbered from 0 are there; others throw and change nothing. */
    static void numbered(String what, int many, Maker maker, UseOfNumber call) {
        for (int number : new int[] {0, many - 1}) {
            if (many > 0) {
                StrikeWheels x = maker.made();
                Check.same(what + " of " + number + ": exception", Check.thrownBy(() -> call.of(x, number)), 0);
            }
        }
        for (int number : new int[] {-1, many, LEAST, MOST}) {
            throwsAndKeeps(what + " of " + number, NO_SUCH_ELEMENT, maker, x -> call.of(x, number));
        }
    }

    /** Answers for one number after the other: number, answer, number, answer and so on. */
    static void answers(String what, StrikeWheels x, UseOfNumber call, int... due) {
        for (int index = 0; index + 1 < due.length; index += 2) {
            int number = due[index];
            int answer = due[index + 1];
            Check.same(what + "(" + number + ")", call.of(x, number), answer);
        }
    }
}
