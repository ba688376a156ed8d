import java.lang.reflect.Method;
import java.util.ArrayList;
import java.util.List;

/** Sentences of the document that name no boundary case, in its order; the others stand in the tests of boundary cases. */
public final class SentencesTest {
    private SentencesTest() {
    }

    public static void main(String[] args) {
        primesByWheels();
        integersUnlessSaid();
        fromTheBuffer();
        anyNumberOfTimes();
        ordersAreOperations();
        noSuchValue();
        bytesOfAText();
        bytesOfAScript();
        sizesOfThings();
        primesWithoutMark();
        layAStretch();
        dropTheLast();
        swapPlaces();
        addBehind();
        liftOne();
        firstOfTheRow();
        setWheel();
        fillWithMissing();
        tidyTheRow();
        playAScript();
        undoTheMostRecent();
        Check.close("SentencesTest");
    }

    // ---- what an object has, as text

    private static String marks(StrikeWheels x) {
        StringBuilder text = new StringBuilder();
        int mark = x.mark(0);
        for (int place = 1; mark != -1 && place < 200; place++) {
            text.append(mark).append(' ');
            mark = x.mark(place);
        }
        return text.toString().trim();
    }

    private static String row(StrikeWheels x) {
        StringBuilder text = new StringBuilder();
        int many = x.size(3);
        for (int striker = 0; striker < many; striker++) {
            text.append(x.striker(striker, 0)).append(' ');
        }
        return text.toString().trim();
    }

    private static String ends(StrikeWheels x) {
        StringBuilder text = new StringBuilder();
        int many = x.size(1);
        for (int stretch = 0; stretch < many; stretch++) {
            text.append(x.stretch(stretch, 1)).append(' ');
        }
        return text.toString().trim();
    }

    /** WHEEL, the ends of the stretches, the row of strikers and the marks. */
    private static void has(String what, StrikeWheels x, int wheel, String ends, String row, String marks) {
        Check.same(what + ": WHEEL", x.size(0), wheel);
        Check.sameText(what + ": ends of stretches", ends(x), ends);
        Check.sameText(what + ": row", row(x), row);
        Check.sameText(what + ": marks", marks(x), marks);
    }

    private static List<Integer> primesUpTo(int last) {
        List<Integer> primes = new ArrayList<>();
        for (int number = 2; number <= last; number++) {
            boolean isPrime = true;
            for (int prime : primes) {
                isPrime &= number % prime != 0;
            }
            if (isPrime) {
                primes.add(number);
            }
        }
        return primes;
    }

    /** LAST 40, the row 2 3 6 5: the marks are the primes. */
    private static StrikeWheels four() {
        return Check.of("sieve 0;stretch 20;stretch 19;striker 2;striker 3;striker 6;striker 5;");
    }

    private static final String PRIMES_TO_40 = "2 3 5 7 11 13 17 19 23 29 31 37";

    // ---- from the first line to the end of "Operations"

    private static void primesByWheels() {
        Edges.sentence("Primes by wheels that strike out, stretch by stretch: numbers that are laid in stretches, spokes of a wheel"
                + " of small primes, a row of strikers that strike from their squares on, marks that are left, owners of those that"
                + " are struck, strikers that are missing or idle, gaps and twins between marks, counts and places of marks, sums of"
                + " two marks, reasons, what would be, scripts with orders, accounts, undo and a snapshot.");
        for (int wheel = 0; wheel <= 4; wheel++) {
            StrikeWheels x = Check.of("sieve " + wheel + ";");
            for (int stretch = 0; stretch < 12; stretch++) {
                x.lay(20);
                x.fill(30);
            }
            List<Integer> primes = primesUpTo(241);
            for (int place = 0; place < primes.size(); place++) {
                Check.same("wheel " + wheel + ": mark(" + place + ")", x.mark(place), primes.get(place));
            }
            Check.same("wheel " + wheel + ": marks", x.size(4), primes.size());
        }
        StrikeWheels full = Check.of("sieve 3;" + Edges.stretches(12, 400));
        full.fill(30);
        for (int last = 1; last <= 4801; last += 100) {
            Check.same("primes up to " + last, full.upTo(last), primesUpTo(last).size());
        }
    }

    private static void integersUnlessSaid() {
        Edges.sentence("All numbers are integers unless something else is said.");
        int numbers = 0;
        for (Method method : StrikeWheels.class.getMethods()) {
            if (method.getDeclaringClass() == StrikeWheels.class) {
                numbers += method.getReturnType() == int.class ? 1 : 0;
                for (Class<?> type : method.getParameterTypes()) {
                    Check.isTrue("parameter of " + method.getName(), type == int.class || type == boolean.class);
                }
            }
        }
        Check.same("calls that answer an int: all but useful, spokeShare, saveSnapshot, restoreSnapshot", numbers, 56);
        Check.isTrue("useful is said to be a double", new StrikeWheels().useful() == 1.0);
        Check.isTrue("spokeShare is said to be a float", new StrikeWheels().spokeShare() == 15.0f / 29.0f);
    }

    private static void fromTheBuffer() {
        Edges.sentence("The text comes from a byte buffer.");
        StrikeWheels x = new StrikeWheels();
        Check.feed(x, "sieve 2;stretch 20;s");
        x.lay(7);
        Check.same("in two pieces", x.size(2), 37);
        Check.feed(x, "tretch 9;striker 5; ");
        Check.same("load of both", x.load(40), 30);
        has("load of both", x, 2, "21 30", "5", "2 3 5 7 11 13 17 19 23 29");
        Check.feed(x, "lay 5;lay 6;drop;dro");
        Check.feed(x, "p;add 7;            ");
        Check.same("play of both", x.play(40), 5);
        has("play of both", x, 2, "21 30", "5 7", "2 3 5 7 11 13 17 19 23 29");
        Check.same("a text that was read is read no more", x.load(0), -11);
    }

    private static void anyNumberOfTimes() {
        Edges.sentence("* = any number of times, | = or, brackets = optional):");
        for (int many : new int[] {0, 1, 2, 11, 12}) {
            StrikeWheels x = Check.of("sieve 1;" + Edges.stretches(many, 3) + "striker 9;");
            Check.same(many + " stretches", x.size(1), many);
        }
        for (int many : new int[] {0, 1, 2, 29, 30}) {
            StrikeWheels x = Check.of("sieve 1;stretch 4;" + Edges.strikers(20, many));
            Check.same(many + " strikers", x.size(3), many);
        }
        for (int many : new int[] {0, 1, 2, 19, 20}) {
            Check.same(many + " orders", Check.play(new StrikeWheels(), "wheel 3;".repeat(many)), many);
        }
        String[] orders = {"lay 3;", "drop;", "add 9;", "lift 9;", "first 3;", "swap 3 3;", "wheel 0;", "fill 1;"};
        for (String ahead : orders) {
            for (String behind : orders) {
                StrikeWheels x = Check.of("sieve 1;stretch 9;stretch 9;striker 3;striker 5;");
                boolean isNine = ahead.equals("add 9;");
                boolean isRefused = behind.equals("lift 9;") && !isNine || behind.equals("add 9;") && isNine;
                int due = ahead.equals("lift 9;") ? 0 : isRefused ? 1 : 2;
                Check.same("play of " + ahead + behind, Check.play(x, ahead + behind), due);
            }
        }
    }

    private static void ordersAreOperations() {
        Edges.sentence("The orders are the operations with these names.");
        String[] orders = {"lay 4;", "drop;", "add 11;", "lift 3;", "first 9;", "swap 3 7;", "wheel 4;", "fill 30;"};
        Edges.Use[] calls = {x -> x.lay(4), StrikeWheels::drop, x -> x.add(11), x -> x.lift(3), x -> x.first(9),
            x -> x.swap(3, 7), x -> x.wheel(4), x -> x.fill(30)};
        for (int index = 0; index < orders.length; index++) {
            StrikeWheels played = Edges.busy();
            StrikeWheels called = Edges.busy();
            Check.same("play of " + orders[index], Check.play(played, orders[index]), 1);
            Check.isTrue("call " + orders[index], calls[index].of(called) >= 0);
            Check.sameText("what " + orders[index] + " leaves", Edges.picture(played, 0, false), Edges.picture(called, 0, false));
        }
        String[] refused = {"add 9;", "lift 4;", "first 4;", "swap 4 3;", "swap 3 4;"};
        for (String order : refused) {
            StrikeWheels x = Edges.busy();
            Check.same("play of " + order, Check.play(x, order), 0);
            Check.same("play of " + order + ": account 1", x.account(1), 2);
            has("play of " + order, x, 1, "41 50 62", "3 9 5 7", "2 3 5 7 11 13 17 19 23 29 31 37 41 43 47 53 59 61");
        }
    }

    private static void noSuchValue() {
        Edges.sentence("The constants: `NONE = -1`: There is no such value.");
        Check.same("NONE", StrikeWheels.NONE, -1);
        StrikeWheels x = new StrikeWheels();
        Check.same("no such striker", x.find(4), StrikeWheels.NONE);
        Check.same("no such place", x.mark(11), StrikeWheels.NONE);
        Check.same("no such mark", x.next(29, false), StrikeWheels.NONE);
        Check.same("no such byte", x.formattedByte(0), StrikeWheels.NONE);
        Check.same("no such position", x.errorPosition(), StrikeWheels.NONE);
        Check.same("no such operation", x.undo(), StrikeWheels.NONE);
    }

    // ---- the promises

    private static void bytesOfAText() {
        Edges.promise(3, "`length`: number of bytes to read");
        int[][] due = {{8, 1}, {19, 12}, {20, 12}, {30, 13}, {40, 13}, {7, -11}, {18, -11}, {29, -11}};
        for (int[] row : due) {
            StrikeWheels x = new StrikeWheels();
            Check.feed(x, "sieve 1;stretch 11; stretch 1;striker 5;");
            Check.same("load of " + row[0], x.load(row[0]), row[1]);
        }
    }

    private static void bytesOfAScript() {
        Edges.promise(55, "`length`: number of bytes to read");
        int[][] due = {{0, 0, 30}, {6, 1, 31}, {7, 1, 31}, {13, 2, 33}, {18, 3, 31}, {20, 3, 31}, {5, -11, 30}, {12, -11, 30}};
        for (int[] row : due) {
            StrikeWheels x = new StrikeWheels();
            Check.feed(x, "lay 1; lay 2;drop;  ");
            Check.same("play of " + row[0], x.play(row[0]), row[1]);
            Check.same("LAST behind play of " + row[0], x.size(2), row[2]);
        }
    }

    private static void sizesOfThings() {
        Edges.promise(5, "Returns a number: what 0 WHEEL, 1 stretches, 2 LAST, 3 strikers,");
        StrikeWheels x = Check.of("sieve 3;stretch 7;stretch 9;striker 9;striker 4;striker 2;striker 8;striker 120;");
        Edges.answers("size", x, StrikeWheels::size, 0, 3, 1, 2, 2, 17, 3, 5);
        x.lay(3);
        Edges.answers("behind lay: size", x, StrikeWheels::size, 0, 3, 1, 3, 2, 20, 3, 5);
        x.trim(1);
        Edges.answers("behind trim: size", x, StrikeWheels::size, 0, 3, 1, 3, 2, 18, 3, 5);
        x.lift(4);
        Edges.answers("behind lift: size", x, StrikeWheels::size, 0, 3, 1, 3, 2, 18, 3, 4);
        x.wheel(0);
        Edges.answers("behind wheel: size", x, StrikeWheels::size, 0, 0, 1, 3, 2, 18, 3, 4);
        x.drop();
        x.drop();
        x.drop();
        Edges.answers("behind drops: size", x, StrikeWheels::size, 0, 0, 1, 0, 2, 1, 3, 4);
    }

    private static void primesWithoutMark() {
        Edges.promise(35, "Returns primes that are laid and have no mark");
        for (int wheel = 0; wheel <= 4; wheel++) {
            StrikeWheels x = Check.of("sieve " + wheel + ";stretch 120;striker 2;striker 9;striker 7;striker 6;");
            for (int prime : primesUpTo(121)) {
                Check.same("wheel " + wheel + ": at(" + prime + ")", x.at(prime), 0);
            }
            Check.same("wheel " + wheel + ": gap with missing ones", x.gap(), 0);
            Check.isTrue("wheel " + wheel + ": some were missing", x.fill(30) > 0);
            Check.same("wheel " + wheel + ": gap with none missing", x.gap(), 0);
            Check.same("wheel " + wheel + ": the marks are the primes", x.size(4), 30);
        }
    }

    private static void layAStretch() {
        Edges.promise(45, "Operation: a stretch is laid.");
        StrikeWheels x = four();
        Check.same("lay", x.lay(9), 4);
        has("lay", x, 0, "21 40 49", "2 3 6 5", PRIMES_TO_40 + " 41 43 47 49");
        Check.same("undo", x.undo(), 0);
        has("undone", x, 0, "21 40", "2 3 6 5", PRIMES_TO_40);
    }

    private static void dropTheLast() {
        Edges.promise(46, "Operation: the last stretch is taken away.");
        StrikeWheels x = four();
        Check.same("drop", x.drop(), 21);
        has("drop", x, 0, "21", "2 3 6 5", "2 3 5 7 11 13 17 19");
        Check.same("drop again", x.drop(), 1);
        has("drop again", x, 0, "", "2 3 6 5", "");
        Check.same("undo", x.undo(), 1);
        Check.same("undo again", x.undo(), 0);
        has("undone", x, 0, "21 40", "2 3 6 5", PRIMES_TO_40);
    }

    private static void swapPlaces() {
        Edges.promise(48, "Operation: two strikers change their places in the row.");
        StrikeWheels x = four();
        Check.same("12, 18, 24, 30 to 3, 36 to 6", x.swap(2, 6), 5);
        has("swap", x, 0, "21 40", "6 3 2 5", PRIMES_TO_40);
        Check.same("40 to 5, but 30 stays with 3", x.swap(5, 2), 1);
        has("swap again", x, 0, "21 40", "6 3 5 2", PRIMES_TO_40);
        x.undo();
        x.undo();
        has("undone", x, 0, "21 40", "2 3 6 5", PRIMES_TO_40);
    }

    private static void addBehind() {
        Edges.promise(49, "Operation: a striker is added behind all others.");
        StrikeWheels x = Check.of("sieve 1;stretch 39;striker 3;");
        Check.same("25 and 35", x.add(5), 2);
        has("add", x, 1, "40", "3 5", PRIMES_TO_40);
        Check.same("none", x.add(2), 0);
        has("add again", x, 1, "40", "3 5 2", PRIMES_TO_40);
        x.undo();
        x.undo();
        has("undone", x, 1, "40", "3", "2 3 5 7 11 13 17 19 23 25 29 31 35 37");
    }

    private static void liftOne() {
        Edges.promise(50, "Operation: a striker is taken away.");
        StrikeWheels x = four();
        Check.same("9, 15, 21, 27, 33, 39", x.lift(3), 6);
        has("lift", x, 0, "21 40", "2 6 5", "2 3 5 7 9 11 13 15 17 19 21 23 27 29 31 33 37 39");
        Check.same("undo", x.undo(), 0);
        has("undone", x, 0, "21 40", "2 3 6 5", PRIMES_TO_40);
    }

    private static void firstOfTheRow() {
        Edges.promise(51, "Operation: a striker becomes the first one of the row.");
        StrikeWheels x = four();
        Check.same("the third one", x.first(6), 2);
        has("first", x, 0, "21 40", "6 2 3 5", PRIMES_TO_40);
        Check.same("the last one", x.first(5), 3);
        has("first again", x, 0, "21 40", "5 6 2 3", PRIMES_TO_40);
        Check.same("the owner of 30", x.cause(30), 5);
        x.undo();
        has("undone", x, 0, "21 40", "6 2 3 5", PRIMES_TO_40);
        Check.same("the owner of 30 again", x.cause(30), 2);
    }

    private static void setWheel() {
        Edges.promise(52, "Operation: sets WHEEL.");
        StrikeWheels x = Check.of("sieve 0;stretch 24;striker 9;");
        Check.same("wheel(2)", x.wheel(2), 0);
        has("wheel", x, 2, "25", "9", "2 3 5 7 11 13 17 19 23 25");
        Check.same("wheel(3)", x.wheel(3), 2);
        has("wheel again", x, 3, "25", "9", "2 3 5 7 11 13 17 19 23");
        x.undo();
        x.undo();
        has("undone", x, 0, "25", "9", "2 3 4 5 6 7 8 9 10 11 12 13 14 15 16 17 18 19 20 21 22 23 24 25");
    }

    private static void fillWithMissing() {
        Edges.promise(53, "Operation: the smallest missing striker is added, again and again", "Returns how many were added.");
        StrikeWheels x = Check.of("sieve 0;stretch 39;striker 9;");
        Check.same("missing: 2 3 4 5 6", x.size(8), 5);
        Check.same("fill(2)", x.fill(2), 2);
        has("fill", x, 0, "40", "9 2 3", "2 3 5 7 11 13 17 19 23 25 29 31 35 37");
        Check.same("fill(30)", x.fill(30), 1);
        has("fill again", x, 0, "40", "9 2 3 5", PRIMES_TO_40);
        Check.same("fill(1)", x.fill(1), 0);
        x.undo();
        x.undo();
        has("undone", x, 0, "40", "9 2 3", "2 3 5 7 11 13 17 19 23 25 29 31 35 37");
    }

    private static void tidyTheRow() {
        Edges.promise(54, "Operation: all strikers that own no laid number are taken away", "Returns how many were.");
        StrikeWheels x = Check.of("sieve 0;stretch 39;striker 7;striker 2;striker 4;striker 3;striker 6;striker 5;striker 12;");
        Check.same("idle: 7 4 6 12", x.size(9), 4);
        Check.same("tidy", x.tidy(), 4);
        has("tidy", x, 0, "40", "2 3 5", PRIMES_TO_40);
        Check.same("tidy again", x.tidy(), 0);
        x.undo();
        x.undo();
        has("undone", x, 0, "40", "7 2 4 3 6 5 12", PRIMES_TO_40);
    }

    private static void playAScript() {
        Edges.promise(55, "Operation: reads the first bytes of the buffer as a script");
        StrikeWheels x = four();
        Check.same("play", Check.play(x, "lift 6;drop;wheel 1;first 3;lay 3;add 6;swap 2 5;"), 7);
        has("play", x, 1, "21 24", "3 5 2 6", "2 3 5 7 11 13 17 19 23");
        Check.same("one operation", x.undo(), 0);
        has("undone", x, 0, "21 40", "2 3 6 5", PRIMES_TO_40);
    }

    private static void undoTheMostRecent() {
        Edges.promise(59, "Undoes the most recent operation.");
        StrikeWheels x = new StrikeWheels();
        x.add(5);
        x.trim(20);
        x.wheel(2);
        x.undo();
        has("wheel undone", x, 1, "21", "3 5", "2 3 5 7 11 13 17 19");
        x.drop();
        x.undo();
        has("drop undone", x, 1, "21", "3 5", "2 3 5 7 11 13 17 19");
        x.undo();
        has("trim undone", x, 1, "30", "3 5", "2 3 5 7 11 13 17 19 23 29");
        x.undo();
        has("add undone", x, 1, "30", "3", "2 3 5 7 11 13 17 19 23 25 29");
        Check.same("none is left", x.undo(), -1);
    }
}
