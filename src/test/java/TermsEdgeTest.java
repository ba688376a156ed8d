/** The boundary cases that the document's "Stretches" and "Wheel, strikers, marks" name, sentence by sentence. */
public final class TermsEdgeTest {
    private static final int[] WHEEL_PRIMES = {2, 3, 5, 7};

    private TermsEdgeTest() {
    }

    public static void main(String[] args) {
        numberOfStretches();
        roomOfAStretch();
        whereStretchesBegin();
        lastWithoutStretches();
        laidNumbers();
        wheelsThereAre();
        wheelPrimes();
        spokes();
        numberOfStrikers();
        rangeOfD();
        noTwoTheSame();
        squareOnSpokes();
        squareAndDivided();
        ownerIsTheFirst();
        whatHasAMark();
        missingUpToTheSquare();
        missingHasAMark();
        noneMissing();
        lastCallOfAll();
        Check.close("TermsEdgeTest");
    }

    private static void numberOfStretches() {
        Edges.sentence("There are 0 to 12 stretches, numbered from 0");
        StrikeWheels none = Check.of("sieve 1;");
        Check.same("none at all", none.size(1), 0);
        Check.noSuchElement("none at all: stretch(0, 0)", () -> none.stretch(0, 0));
        StrikeWheels twelve = Check.of("sieve 1;" + Edges.stretches(12, 2));
        Check.same("12 of a text", twelve.size(1), 12);
        Check.same("the first one is 0", twelve.stretch(0, 0), 2);
        Check.same("the last one is 11", twelve.stretch(11, 1), 25);
        Check.noSuchElement("stretch(12, 0)", () -> twelve.stretch(12, 0));
        Check.noSuchElement("stretch(-1, 0)", () -> twelve.stretch(-1, 0));
        Check.same("a 13th one by lay", twelve.lay(1), -2);
        Check.same("a 13th one of a text", Check.load(twelve, "sieve 1;" + Edges.stretches(13, 2)), -14);
        StrikeWheels laid = Check.of("sieve 1;" + Edges.stretches(11, 2));
        Check.same("the 12th one by lay", laid.lay(2), 1);
        Check.same("12 with one by lay", laid.size(1), 12);
    }

    private static void roomOfAStretch() {
        Edges.sentence("each of a ROOM (1 to 400 numbers)");
        StrikeWheels x = Check.of("sieve 1;stretch 1;stretch 400;");
        Check.same("1: first", x.stretch(0, 0), 2);
        Check.same("1: last", x.stretch(0, 1), 2);
        Check.same("400: first", x.stretch(1, 0), 3);
        Check.same("400: last", x.stretch(1, 1), 402);
        Check.same("0 of a text", Check.load(x, "sieve 1;stretch 0;"), -12);
        Check.same("401 of a text", Check.load(x, "sieve 1;stretch 401;"), -12);
        Check.same("0 of a script", Check.play(x, "lay 0;"), -12);
        Check.same("401 of a script", Check.play(x, "lay 401;"), -12);
        Check.same("both ends of a script", Check.play(x, "lay 1;lay 400;"), 2);
        Check.same("LAST then", x.size(2), 803);
        Check.illegalArgument("lay(0)", () -> x.lay(0));
        Check.illegalArgument("lay(401)", () -> x.lay(401));
    }

    private static void whereStretchesBegin() {
        Edges.sentence("the first one begins with 2, each other one behind the last number of the one ahead of it");
        StrikeWheels x = Check.of("sieve 0;stretch 1;stretch 400;stretch 7;stretch 1;");
        int[] firsts = {2, 3, 403, 410};
        int[] lasts = {2, 402, 409, 410};
        for (int stretch = 0; stretch < 4; stretch++) {
            Check.same("first number of " + stretch, x.stretch(stretch, 0), firsts[stretch]);
            Check.same("last number of " + stretch, x.stretch(stretch, 1), lasts[stretch]);
        }
        x.drop();
        x.trim(3);
        x.lay(5);
        Check.same("behind one that was trimmed", x.stretch(3, 0), 406);
        x.drop();
        x.lay(9);
        Check.same("where one was taken away", x.stretch(3, 0), 406);
        StrikeWheels none = Check.of("sieve 0;");
        none.lay(4);
        Check.same("the first one that lay lays", none.stretch(0, 0), 2);
    }

    private static void lastWithoutStretches() {
        Edges.sentence("LAST is the last number of all (1 without stretches)");
        StrikeWheels x = Check.of("sieve 0;stretch 1;");
        Check.same("with one number", x.size(2), 2);
        Check.same("drop answers it", x.drop(), 1);
        Check.same("without stretches", x.size(2), 1);
        Check.same("cause tells it", x.cause(2), 1);
        Check.same("load answers it", Check.load(x, "sieve 3;striker 9;"), 1);
        Check.same("the greatest there is", Check.load(x, "sieve 0;" + Edges.stretches(12, 400)), 4801);
        Check.same("the greatest there is, told by size", x.size(2), 4801);
        Check.same("the greatest there is, told by cause", x.cause(4802), 4801);
    }

    private static void laidNumbers() {
        Edges.sentence("the numbers 2 to LAST are laid");
        StrikeWheels x = Check.of("sieve 0;stretch 3;stretch 6;");
        Edges.answers("at", x, StrikeWheels::at, 2, 0, 10, 0, 1, 3, 11, 3, 0, 3, -2, 3, Edges.LEAST, 3, Edges.MOST, 3);
        x.trim(1);
        Edges.answers("behind a trim: at", x, StrikeWheels::at, 5, 0, 6, 3);
        x.lay(2);
        Edges.answers("behind a lay: at", x, StrikeWheels::at, 7, 0, 8, 3);
        x.drop();
        Edges.answers("behind a drop: at", x, StrikeWheels::at, 5, 0, 6, 3);
        Check.same("behind a drop: marks", x.size(4), 4);
        x.undo();
        Edges.answers("behind an undo: at", x, StrikeWheels::at, 7, 0, 8, 3);
        StrikeWheels none = Check.of("sieve 0;");
        Edges.answers("without stretches: at", none, StrikeWheels::at, 1, 3, 2, 3);
        StrikeWheels full = Check.of("sieve 0;" + Edges.stretches(12, 400));
        Edges.answers("with 12 of 400: at", full, StrikeWheels::at, 4801, 0, 4802, 3);
    }

    private static void wheelsThereAre() {
        Edges.sentence("WHEEL is 0 to 4");
        StrikeWheels x = Check.of("sieve 0;");
        Check.same("0 of a text", x.size(0), 0);
        Check.same("4 of a text", Check.load(x, "sieve 4;"), 1);
        Check.same("4 of a text stands", x.size(0), 4);
        Check.same("5 of a text", Check.load(x, "sieve 5;"), -12);
        Check.same("wheel(0)", x.wheel(0), 4);
        Check.same("wheel(4)", x.wheel(4), 0);
        Check.illegalArgument("wheel(5)", () -> x.wheel(5));
        Check.illegalArgument("wheel(-1)", () -> x.wheel(-1));
        Check.same("both ends of a script", Check.play(x, "wheel 4;wheel 0;"), 2);
        Check.same("5 of a script", Check.play(x, "wheel 5;"), -12);
        Check.same("0 stands", x.size(0), 0);
    }

    private static void wheelPrimes() {
        Edges.sentence("the wheel primes are the first WHEEL ones of 2, 3, 5 and 7");
        StrikeWheels x = Check.of("sieve 0;stretch 200;");
        int[] products = {1, 2, 6, 30, 210};
        for (int wheel = 0; wheel <= 4; wheel++) {
            x.wheel(wheel);
            Check.same("wheel " + wheel + ": their product", x.size(6), products[wheel]);
            for (int place = 0; place < 4; place++) {
                int prime = WHEEL_PRIMES[place];
                Check.same("wheel " + wheel + ": at(" + prime * prime + ")", x.at(prime * prime), place < wheel ? 1 : 0);
                Check.same("wheel " + wheel + ": cause", x.cause(prime * prime), place < wheel ? prime : 0);
            }
            Check.same("wheel " + wheel + ": 11 is none", x.at(121), 0);
        }
    }

    private static void spokes() {
        Edges.sentence("A number is on a spoke if no wheel prime divides it but perhaps itself");
        StrikeWheels x = Check.of("sieve 4;stretch 200;");
        Edges.answers("at", x, StrikeWheels::at, 2, 0, 3, 0, 5, 0, 7, 0, 4, 1, 6, 1, 9, 1, 10, 1, 14, 1, 21, 1, 25, 1, 35, 1,
                49, 1, 11, 0, 22, 1, 77, 1, 121, 0, 143, 0, 8, 1, 30, 1);
        x.wheel(3);
        Edges.answers("wheel 3: at", x, StrikeWheels::at, 7, 0, 14, 1, 49, 0, 77, 0);
        x.wheel(1);
        Edges.answers("wheel 1: at", x, StrikeWheels::at, 2, 0, 4, 1, 9, 0, 6, 1);
        x.wheel(0);
        Edges.answers("wheel 0: at", x, StrikeWheels::at, 2, 0, 4, 0, 6, 0);
    }

    private static void numberOfStrikers() {
        Edges.sentence("There are at most 30 strikers, in a row, numbered from 0 in this order");
        StrikeWheels x = Check.of("sieve 0;" + Edges.strikers(40, 30));
        Check.same("30 of a text", x.size(3), 30);
        Check.same("the first one is 0", x.striker(0, 0), 40);
        Check.same("the last one is 29", x.striker(29, 0), 69);
        Check.noSuchElement("striker(30, 0)", () -> x.striker(30, 0));
        Check.noSuchElement("striker(-1, 0)", () -> x.striker(-1, 0));
        Check.same("a 31st one by add", x.add(2), -3);
        Check.same("a 31st one of a text", Check.load(x, "sieve 0;" + Edges.strikers(40, 31)), -14);
        StrikeWheels y = Check.of("sieve 0;stretch 8;" + Edges.strikers(40, 29));
        Check.same("the 30th one by add", y.add(2), 3);
        Check.same("30 with one by add", y.size(3), 30);
        Check.same("its number", y.find(2), 29);
        StrikeWheels z = Check.of("sieve 0;stretch 8;" + Edges.strikers(40, 29));
        Check.same("the 30th one by fill, and no other", z.fill(30), 1);
        Check.same("30 with one by fill", z.size(3), 30);
        StrikeWheels none = Check.of("sieve 0;stretch 8;");
        Check.same("none at all", none.size(3), 0);
        Check.noSuchElement("none at all: striker(0, 0)", () -> none.striker(0, 0));
    }

    private static void rangeOfD() {
        Edges.sentence("each with a number D (2 to 120;");
        StrikeWheels x = Check.of("sieve 0;striker 2;striker 120;");
        Check.same("2 of a text", x.find(2), 0);
        Check.same("120 of a text", x.find(120), 1);
        Check.same("1 of a text", Check.load(x, "sieve 0;striker 1;"), -12);
        Check.same("121 of a text", Check.load(x, "sieve 0;striker 121;"), -12);
        Check.same("both ends of a script", Check.play(x, "lift 2;lift 120;add 120;add 2;"), 4);
        Check.same("1 of a script", Check.play(x, "add 1;"), -12);
        Check.same("121 of a script", Check.play(x, "add 121;"), -12);
        Check.illegalArgument("add(1)", () -> x.add(1));
        Check.illegalArgument("add(121)", () -> x.add(121));
    }

    private static void noTwoTheSame() {
        Edges.sentence("no two have the same");
        StrikeWheels x = new StrikeWheels();
        Check.same("by add", x.add(3), -2);
        Check.same("of a text", Check.load(x, "sieve 0;striker 8;striker 9;striker 8;"), -13);
        Check.same("of a script", Check.play(x, "add 4;add 4;add 5;"), 1);
        Check.same("the row", x.size(3), 2);
    }

    private static void squareOnSpokes() {
        Edges.sentence("A striker strikes a number if this is on a spoke");
        StrikeWheels x = Check.of("sieve 1;stretch 60;striker 3;striker 7;striker 2;");
        Edges.answers("at", x, StrikeWheels::at, 9, 2, 12, 1, 15, 2, 49, 2, 56, 1, 4, 1, 2, 0);
        Edges.answers("struck", x, StrikeWheels::struck, 9, 1, 12, 0, 21, 1, 56, 0, 4, 0);
        x.wheel(4);
        Edges.answers("wheel 4: at", x, StrikeWheels::at, 3, 0, 7, 0, 9, 1, 49, 1);
        Check.same("wheel 4: strikes of 3", x.striker(0, 1), 0);
        x.wheel(0);
        Edges.answers("wheel 0: at", x, StrikeWheels::at, 12, 2, 56, 2, 4, 2, 2, 0);
    }

    private static void squareAndDivided() {
        Edges.sentence("D divides it, and it is D times D or more");
        for (int d : new int[] {2, 3, 4, 7, 11, 20, 68, 69}) {
            StrikeWheels x = Check.of("sieve 0;" + Edges.stretches(12, 400) + "striker " + d + ";");
            Edges.answers("striker " + d + ": at", x, StrikeWheels::at, d * d - d, 0, d * d, 2, d * d - 1, 0, d * d + 1, 0, d, 0);
            Check.same("striker " + d + ": at its square and it", x.at(d * d + d), d < 69 ? 2 : 3);
            Check.same("striker " + d + ": how many", x.striker(0, 1), 4801 / d - d + 1);
        }
        StrikeWheels large = Check.of("sieve 0;" + Edges.stretches(12, 400) + "striker 70;striker 120;");
        Check.same("the square of 70 is above the greatest LAST", large.size(4), 4800);
        Check.same("70 strikes no laid number", large.striker(0, 1), 0);
        StrikeWheels square = Check.of("sieve 0;stretch 23;striker 5;");
        Check.same("25 is above LAST", square.striker(0, 1), 0);
        square.lay(1);
        Check.same("25 is LAST", square.striker(0, 1), 1);
    }

    private static void ownerIsTheFirst() {
        Edges.sentence("The owner of a number is the first striker of the row that strikes it");
        StrikeWheels x = Check.of("sieve 0;stretch 60;striker 6;striker 3;striker 2;");
        Edges.answers("cause", x, StrikeWheels::cause, 36, 6, 42, 6, 30, 3, 12, 3, 8, 2, 9, 3, 7, 0);
        x.first(2);
        Edges.answers("2 first: cause", x, StrikeWheels::cause, 36, 2, 30, 2, 9, 3, 12, 2);
    }

    private static void whatHasAMark() {
        Edges.sentence("A number has a mark if it is laid, on a spoke, and no striker strikes it");
        StrikeWheels x = Check.of("sieve 1;stretch 24;striker 5;");
        int[] marks = {2, 3, 5, 7, 9, 11, 13, 15, 17, 19, 21, 23};
        for (int place = 0; place < marks.length; place++) {
            Check.same("mark(" + place + ")", x.mark(place), marks[place]);
        }
        Check.same("25 is struck", x.mark(marks.length), -1);
        x.lay(1);
        Check.same("26 is on no spoke", x.mark(marks.length), -1);
        Check.same("27 is not laid", x.upTo(27), 12);
        x.lay(1);
        Check.same("27 is laid", x.upTo(27), 13);
    }

    /** Stretches up to a LAST, the first one being the one that may be smaller than 400. */
    private static String laidUpTo(int last) {
        int rest = (last - 1) % 400;
        return (rest > 0 ? "stretch " + rest + ";" : "") + Edges.stretches((last - 1) / 400, 400);
    }

    private static void missingUpToTheSquare() {
        Edges.sentence("and whose square is not above LAST");
        String[] smaller = {"", "striker 2;", "striker 2;striker 3;", "striker 2;striker 3;striker 5;striker 7;"};
        int[] numbers = {2, 3, 5, 11};
        for (int index = 0; index < numbers.length; index++) {
            int number = numbers[index];
            StrikeWheels x = Check.of("sieve 0;" + laidUpTo(number * number) + smaller[index]);
            Check.same(number + ": its square is LAST", x.missing(), number);
            Check.same(number + ": how many", x.size(8), 1);
            x.trim(number * number - 2);
            Check.same(number + ": its square is above LAST", x.missing(), -1);
            Check.same(number + ": none", x.size(8), 0);
        }
        StrikeWheels x = Check.of("sieve 0;" + laidUpTo(69 * 69));
        Check.same("2 to 69", x.size(8), 68);
        x.trim(399);
        Check.same("2 to 68", x.size(8), 67);
    }

    private static void missingHasAMark() {
        Edges.sentence("A striker is missing if it could be one: a number that has a mark, is no striker and no wheel prime");
        StrikeWheels x = Check.of("sieve 0;stretch 15;");
        Check.same("2, 3 and 4 (16 is LAST)", x.size(8), 3);
        x.trim(14);
        Check.same("2 and 3 (15 is LAST)", x.size(8), 2);
        x.wheel(1);
        Check.same("2 is a wheel prime", x.size(8), 1);
        Check.same("2 is a wheel prime: missing", x.missing(), 3);
        x.add(3);
        Check.same("3 is a striker", x.size(8), 0);
        StrikeWheels y = Check.of("sieve 1;stretch 80;striker 5;striker 7;");
        Check.same("3 and 9 have marks", y.size(8), 2);
        y.add(3);
        Check.same("9 has none, since 3 strikes it", y.size(8), 0);
        StrikeWheels z = Check.of("sieve 2;stretch 30;striker 5;");
        z.wheel(3);
        Check.same("5 is both", z.size(8), 0);
    }

    private static void noneMissing() {
        Edges.sentence("If no striker is missing, no mark has a divisor.");
        StrikeWheels x = Check.of("sieve 0;" + Edges.stretches(12, 400));
        Check.same("18 of 19 are added", x.fill(18), 18);
        Check.same("67 is missing", x.missing(), 67);
        Check.same("67 times 67 and 67 times 71 are marks", x.wrong(), 2);
        Check.same("the smaller one", x.firstWrong(), 4489);
        Check.same("the last one is added", x.fill(30), 1);
        Check.same("none is missing", x.missing(), -1);
        Check.same("no mark has a divisor", x.wrong(), 0);
        Check.same("so there is no first one", x.firstWrong(), -1);
        Check.same("primes up to 4801", x.size(4), 647);
    }

    private static void lastCallOfAll() {
        Edges.sentence("An object is used for at most 512 calls after it has been made; what later calls answer is free.");
        StrikeWheels x = new StrikeWheels();
        for (int call = 1; call <= 170; call++) {
            x.trim(29 - call % 28);
            x.wheel(call % 5);
            x.undo();
        }
        Check.same("call 511", x.lay(12), 4);
        Check.same("call 512", x.undoCount(), 8);
    }
}
