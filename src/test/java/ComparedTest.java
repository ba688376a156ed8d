import java.util.ArrayList;
import java.util.List;

/** Walks of calls, each answer compared with the model's; the walks are the same at each run. */
public final class ComparedTest {
    // An object is used for at most 512 calls; a step of a walk takes up to 40, asking all at its end as many.
    private static final int CALLS = 512 - 40 - 40;
    private static final int CALLS_ON_A_LARGE_ONE = 160;
    private static final int[] EDGES = {Integer.MIN_VALUE, Integer.MIN_VALUE + 1, -400, -2, -1, 0, 1, 2, 3, 4, 5,
        29, 30, 31, 119, 120, 121, 399, 400, 401, 4801, 4802, 5000, 5001, 14400, 44100, 9409,
        Integer.MAX_VALUE - 1, Integer.MAX_VALUE};

    private final long seed;
    private final boolean isLarge;
    private long random;
    private StrikeWheels wheels = new StrikeWheels();
    private Model model = new Model();
    private String log = "";
    private int calls = 0;

    private ComparedTest(long seed, boolean isLarge) {
        this.seed = seed;
        this.isLarge = isLarge;
        this.random = seed * 7919 + 13;
    }

    public static void main(String[] args) {
        for (long seed = 1; seed <= 900; seed++) {
            new ComparedTest(seed, false).walk();
        }
        for (long seed = 1001; seed <= 1030; seed++) {
            new ComparedTest(seed, true).walk();
        }
        Check.close("ComparedTest");
    }

    private int below(int bound) {
        random = random * 6364136223846793005L + 1442695040888963407L;
        return (int) ((random >>> 33) % bound);
    }

    private int in(int least, int most) {
        return least + below(most - least + 1);
    }

    /** A number that mostly lies in a range, and now and then anywhere. */
    private int near(int least, int most) {
        switch (below(12)) {
            case 0: return EDGES[below(EDGES.length)];
            case 1: return least - 1 + below(3);
            case 2: return most - 1 + below(3);
            default: return in(least, most);
        }
    }

    private int room() {
        return isLarge ? in(200, 400) : below(4) == 0 ? in(1, 8) : in(1, 60);
    }

    /** A D, mostly of those that are often in the row. */
    private int d() {
        return below(3) == 0 ? near(2, 120) : in(2, 13);
    }

    private int striker() {
        return below(8) == 0 ? near(0, 29) : in(0, Math.max(0, model.size(3) - 1));
    }

    private int number() {
        return near(2, model.last() + 3);
    }

    private void compare(String call, Check.Call got, Check.Call due) {
        log = call;
        calls++;
        int thrown = Check.thrownBy(due);
        int caught = 0;
        long answer = 0;
        try {
            answer = got.answer();
        } catch (RuntimeException failure) {
            caught = Check.kindOf(failure);
        }
        Check.same("seed " + seed + ": the exception of " + call, caught, thrown);
        if (thrown == 0 && caught == 0) {
            Check.same("seed " + seed + ": " + call, answer, lastDue);
        }
    }

    private long lastDue = 0;

    /** The model's answer is kept, since a call that changes it must not be made twice. */
    private Check.Call kept(Check.Call call) {
        return () -> lastDue = call.answer();
    }

    private void ask(String call, Check.Call got, Check.Call due) {
        compare(call, got, kept(due));
    }

    private void walk() {
        begin();
        while (calls < (isLarge ? CALLS_ON_A_LARGE_ONE : CALLS)) {
            if (isLarge && below(6) != 0 || below(3) == 0) {
                change();
            } else if (below(2) == 0) {
                askWhatThereIs();
            } else {
                askMarks();
            }
        }
        askAll();
        Check.isTrue("seed " + seed + ": no more than 512 calls", calls <= 512);
    }

    private void begin() {
        if (below(3) != 0) {
            loadText(rightText());
        }
    }

    private void change() {
        int a;
        switch (below(16)) {
            case 0: { int r = below(9) == 0 ? near(1, 400) : room();
                ask("lay(" + r + ")", () -> wheels.lay(r), () -> model.lay(r)); break; }
            case 1: ask("drop()", () -> wheels.drop(), () -> model.drop()); break;
            case 2: { int r = below(3) == 0 ? near(1, 399) : room();
                ask("trim(" + r + ")", () -> wheels.trim(r), () -> model.trim(r)); break; }
            case 3: { int x = d(); int y = d();
                ask("swap(" + x + ", " + y + ")", () -> wheels.swap(x, y), () -> model.swap(x, y)); break; }
            case 4: { int x = d(); ask("add(" + x + ")", () -> wheels.add(x), () -> model.add(x)); break; }
            case 5: { int x = d(); ask("lift(" + x + ")", () -> wheels.lift(x), () -> model.lift(x)); break; }
            case 6: { int x = d(); ask("first(" + x + ")", () -> wheels.first(x), () -> model.first(x)); break; }
            case 7: { int w = near(0, 4); ask("wheel(" + w + ")", () -> wheels.wheel(w), () -> model.wheel(w)); break; }
            case 8: { int m = below(2) == 0 ? near(1, 30) : in(1, 3);
                ask("fill(" + m + ")", () -> wheels.fill(m), () -> model.fill(m)); break; }
            case 9: ask("tidy()", () -> wheels.tidy(), () -> model.tidy()); break;
            case 10: playText(changed(rightScript())); break;
            case 11: if (below(3) == 0) { loadText(changed(rightText())); } break;
            case 12: case 13:
                a = in(1, 3);
                for (int i = 0; i < a; i++) {
                    ask("undo()", () -> wheels.undo(), () -> model.undo());
                }
                break;
            case 14: wheels.saveSnapshot(); model.saveSnapshot(); calls++; break;
            default:
                if (below(2) == 0) {
                    ask("restoreSnapshot()", () -> wheels.restoreSnapshot() ? 1 : 0, () -> model.restoreSnapshot() ? 1 : 0);
                }
                break;
        }
        ask("undoCount()", () -> wheels.undoCount(), () -> model.undoCount());
        for (int what = 0; what < 5; what++) {
            int w = what;
            ask("account(" + w + ") behind " + log, () -> wheels.account(w), () -> model.account(w));
        }
    }

    private void askWhatThereIs() {
        int what = near(0, 5);
        int n = number();
        int s = striker();
        int t = striker();
        int st = below(8) == 0 ? near(0, 11) : in(0, Math.max(0, model.size(1) - 1));
        switch (below(13)) {
            case 0: { int w = near(0, 9); ask("size(" + w + ")", () -> wheels.size(w), () -> model.size(w)); break; }
            case 1: { int w = near(0, 4); ask("account(" + w + ")", () -> wheels.account(w), () -> model.account(w)); break; }
            case 2: ask("stretch(" + st + ", " + what + ")", () -> wheels.stretch(st, what), () -> model.stretch(st, what)); break;
            case 3: ask("striker(" + s + ", " + what + ")", () -> wheels.striker(s, what), () -> model.striker(s, what)); break;
            case 4: { int x = d(); ask("find(" + x + ")", () -> wheels.find(x), () -> model.find(x)); break; }
            case 5: ask("at(" + n + ")", () -> wheels.at(n), () -> model.at(n)); break;
            case 6: ask("cause(" + n + ")", () -> wheels.cause(n), () -> model.cause(n)); break;
            case 7: ask("struck(" + n + ")", () -> wheels.struck(n), () -> model.struck(n)); break;
            case 8: { int p = near(0, 48); ask("spokeAt(" + p + ")", () -> wheels.spokeAt(p), () -> model.spokeAt(p)); break; }
            case 9: { int p = near(1, 500); ask("spokeOf(" + p + ")", () -> wheels.spokeOf(p), () -> model.spokeOf(p)); break; }
            case 10: ask("both(" + s + ", " + t + ")", () -> wheels.both(s, t), () -> model.both(s, t)); break;
            case 11: ask("meet(" + s + ", " + t + ")", () -> wheels.meet(s, t), () -> model.meet(s, t)); break;
            default: askFormat(st); break;
        }
    }

    private void askFormat(int stretch) {
        ask("format(" + stretch + ")", () -> wheels.format(stretch), () -> model.format(stretch));
        for (int index = -1; index < 30; index++) {
            int i = below(4) == 0 ? near(0, 1999) : index;
            ask("formattedByte(" + i + ")", () -> wheels.formattedByte(i), () -> model.formattedByte(i));
        }
    }

    private void askMarks() {
        int n = number();
        int m = number();
        int g = below(2) == 0 ? near(1, 400) : in(1, 8);
        switch (below(30)) {
            case 0: ask("upTo(" + n + ")", () -> wheels.upTo(n), () -> model.upTo(n)); break;
            case 1: { int p = near(0, model.size(4)); ask("mark(" + p + ")", () -> wheels.mark(p), () -> model.mark(p)); break; }
            case 2: ask("between(" + n + ", " + m + ")", () -> wheels.between(n, m), () -> model.between(n, m)); break;
            case 3: { int p = near(1, 5000); ask("divisor(" + p + ")", () -> wheels.divisor(p), () -> model.divisor(p)); break; }
            case 4: { int p = near(1, 5000); ask("divisors(" + p + ")", () -> wheels.divisors(p), () -> model.divisors(p)); break; }
            case 5: ask("longest()", () -> wheels.longest(), () -> model.longest()); break;
            case 6: ask("chain(" + n + ")", () -> wheels.chain(n), () -> model.chain(n)); break;
            case 7: { int t = below(2) == 0 ? near(0, 5000) : in(0, 9); ask("turn(" + t + ")", () -> wheels.turn(t), () -> model.turn(t)); break; }
            case 8: ask("next(" + n + ", false)", () -> wheels.next(n, false), () -> model.next(n, false)); break;
            case 9: ask("next(" + n + ", true)", () -> wheels.next(n, true), () -> model.next(n, true)); break;
            case 10: ask("gaps(" + g + ")", () -> wheels.gaps(g), () -> model.gaps(g)); break;
            case 11: ask("widest()", () -> wheels.widest(), () -> model.widest()); break;
            case 12: ask("widestAt()", () -> wheels.widestAt(), () -> model.widestAt()); break;
            case 13: ask("twins(" + g + ")", () -> wheels.twins(g), () -> model.twins(g)); break;
            case 14: case 15: { int p = below(2) == 0 ? n : near(2, 2 * model.last());
                ask("sums(" + p + ")", () -> wheels.sums(p), () -> model.sums(p));
                ask("leastOf(" + p + ")", () -> wheels.leastOf(p), () -> model.leastOf(p)); break; }
            case 16: ask("thickest(" + g + ")", () -> wheels.thickest(g), () -> model.thickest(g)); break;
            case 17: ask("wrong()", () -> wheels.wrong(), () -> model.wrong()); break;
            case 18: ask("firstWrong()", () -> wheels.firstWrong(), () -> model.firstWrong()); break;
            case 19: ask("gap()", () -> wheels.gap(), () -> model.gap()); break;
            case 20: ask("missing()", () -> wheels.missing(), () -> model.missing()); break;
            case 21: { int x = d(); ask("takes(" + x + ")", () -> wheels.takes(x), () -> model.takes(x)); break; }
            case 22: { int s = striker(); ask("gives(" + s + ")", () -> wheels.gives(s), () -> model.gives(s)); break; }
            case 23: ask("best()", () -> wheels.best(), () -> model.best()); break;
            case 24: { int r = near(1, 400); ask("marksNext(" + r + ")", () -> wheels.marksNext(r), () -> model.marksNext(r)); break; }
            case 25: ask("leastWheel()", () -> wheels.leastWheel(), () -> model.leastWheel()); break;
            case 26: ask("shareBits()", () -> wheels.shareBits(), () -> model.shareBits()); break;
            case 27: ask("useful()", () -> Double.doubleToLongBits(wheels.useful()), () -> Double.doubleToLongBits(model.useful())); break;
            case 28: ask("spokeShare()", () -> Float.floatToIntBits(wheels.spokeShare()), () -> Float.floatToIntBits(model.spokeShare())); break;
            default: ask("undoCount()", () -> wheels.undoCount(), () -> model.undoCount()); break;
        }
    }

    private void askAll() {
        for (int what = 0; what <= 9; what++) {
            int w = what;
            ask("size(" + w + ")", () -> wheels.size(w), () -> model.size(w));
        }
        for (int index = 0; index < model.size(3); index++) {
            int s = index;
            ask("striker(" + s + ", 0)", () -> wheels.striker(s, 0), () -> model.striker(s, 0));
        }
    }

    // ---- texts

    private String blank() {
        switch (below(6)) {
            case 0: return " ";
            case 1: return "\n";
            case 2: return " \n ";
            default: return "";
        }
    }

    private String number(int value) {
        return (below(8) == 0 ? "00" : "") + value;
    }

    private String rightText() {
        StringBuilder text = new StringBuilder();
        text.append(blank()).append("sieve").append(blank()).append(number(in(0, 4))).append(blank()).append(";");
        int stretches = isLarge ? in(8, 12) : below(10) == 0 ? in(11, 13) : in(0, 4);
        for (int index = 0; index < stretches; index++) {
            text.append(blank()).append("stretch").append(blank()).append(number(room())).append(";");
        }
        int strikers = below(10) == 0 ? in(28, 31) : in(0, 8);
        List<Integer> row = new ArrayList<>();
        while (row.size() < strikers) {
            int d = below(3) == 0 ? in(2, 120) : in(2, 31);
            if (!row.contains(d)) {
                row.add(d);
                text.append(blank()).append("striker").append(number(d)).append(blank()).append(";");
            }
        }
        return text.append(blank()).toString();
    }

    private String rightScript() {
        StringBuilder text = new StringBuilder(blank());
        int orders = below(10) == 0 ? in(19, 21) : in(0, 6);
        for (int index = 0; index < orders; index++) {
            switch (below(8)) {
                case 0: text.append("lay").append(blank()).append(number(isLarge ? room() : in(1, 40))); break;
                case 1: text.append("drop"); break;
                case 2: text.append("add").append(number(in(2, 12))); break;
                case 3: text.append("lift").append(number(in(2, 12))); break;
                case 4: text.append("first").append(number(in(2, 12))); break;
                case 5: text.append("swap").append(number(in(2, 12))).append(" ").append(number(in(2, 12))); break;
                case 6: text.append("wheel").append(number(in(0, 4))); break;
                default: text.append("fill").append(blank()).append(number(in(1, 30))); break;
            }
            text.append(blank()).append(";").append(blank());
        }
        return text.toString();
    }

    /** The same text, or one with a token, byte or number changed. */
    private String changed(String text) {
        if (below(2) == 0 || text.isEmpty()) {
            return text;
        }
        int at = below(text.length());
        String[] pieces = {";", " ", "0", "1", "9", "500", "x", "A", "\t", "\u0000", "\u00ff", "striker", "stretch 3;",
            "lay 401;", "fill 31;", "fill 0;", "wheel 5;", "swap 3;", "trim 3;", "tidy;", "99999999999999999999"};
        switch (below(4)) {
            case 0: return text.substring(0, at);
            case 1: return text.substring(0, at) + text.substring(at + 1);
            case 2: return text.substring(0, at) + pieces[below(pieces.length)] + text.substring(at);
            default: return text.substring(0, at) + pieces[below(pieces.length)] + text.substring(at + 1);
        }
    }

    private void feed(String text) {
        Check.feed(wheels, text);
        calls += (text.length() + 19) / 20;
    }

    private int errorPosition() {
        calls++;
        return wheels.errorPosition();
    }

    private void loadText(String text) {
        if (text.length() > 600) {
            return;
        }
        ModelReader read = ModelReader.ofText(text);
        feed(text);
        ask("load of " + text, () -> wheels.load(text.length()),
                () -> read.code != 0 ? -10 - read.code : model.load(read.wheel, read.rooms, read.row));
        Check.same("seed " + seed + ": errorPosition() behind load of " + text, errorPosition(), read.position);
    }

    private void playText(String text) {
        if (text.length() > 600) {
            return;
        }
        ModelReader read = ModelReader.ofScript(text);
        feed(text);
        ask("play of " + text, () -> wheels.play(text.length()),
                () -> read.code != 0 ? -10 - read.code : model.play(read.orders));
        Check.same("seed " + seed + ": errorPosition() behind play of " + text, errorPosition(), read.position);
    }
}
