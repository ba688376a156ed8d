/** The boundary cases of "marks", "what is right", "what would be" and "measures", promises 17 to 44. */
public final class MarksEdgeTest {
    private static final int LEAST = Edges.LEAST;
    private static final int MOST = Edges.MOST;

    private MarksEdgeTest() {
    }

    public static void main(String[] args) {
        notAbove();
        noSuchMark();
        bothIncluded();
        secondSmaller();
        divisorNone();
        divisorsNone();
        longestRun();
        chainOfMarks();
        turnOutOfRange();
        marksOfATurn();
        nextAboveAndBelow();
        gapsOutOfRange();
        gapsBetweenMarks();
        widestOfFew();
        firstOfTheWidest();
        twinsOutOfRange();
        twinsWithAGap();
        sumsOfTwo();
        leastOfNone();
        thickestOutOfRange();
        thickestOfSome();
        wrongMarks();
        firstWrongNone();
        gapIsZero();
        missingNone();
        takesOutOfRange();
        takesIfAdded();
        givesNoSuch();
        givesWithout();
        bestNone();
        bestOfSeveral();
        marksNextOutOfRange();
        marksNextWithoutRoom();
        leastWheelNone();
        nothingChanges();
        shareWithoutNumbers();
        usefulWithoutStrikes();
        spokeShareWithoutNumbers();
        Check.close("MarksEdgeTest");
    }

    private static StrikeWheels nothingLaid() {
        return Check.of("sieve 1;striker 3;");
    }

    /** Marks 2 3 5 7 11 13 17 19 23 25 29 of the numbers up to 30. */
    private static StrikeWheels eleven() {
        return new StrikeWheels();
    }

    private static StrikeWheels all4800() {
        return Check.of("sieve 0;" + Edges.stretches(12, 400));
    }

    // ---- marks

    private static void notAbove() {
        Edges.sentence("Returns how many marks are not above a number.");
        Edges.answers("upTo", eleven(), StrikeWheels::upTo, 1, 0, 2, 1, 3, 2, 4, 2, 5, 3, 28, 10, 29, 11, 30, 11, 31, 11,
                0, 0, -1, 0, -29, 0, LEAST, 0, LEAST + 1, 0, MOST, 11, MOST - 1, 11, 4802, 11);
        Edges.answers("nothing laid: upTo", nothingLaid(), StrikeWheels::upTo, 1, 0, 2, 0, LEAST, 0, MOST, 0);
        Edges.answers("all: upTo", all4800(), StrikeWheels::upTo, 4800, 4799, 4801, 4800, 4802, 4800, MOST, 4800);
    }

    private static void noSuchMark() {
        Edges.sentence("Returns the mark at a place (from 0, the smallest first); NONE if there is no such place.");
        Edges.answers("mark", eleven(), StrikeWheels::mark, 0, 2, 1, 3, 9, 25, 10, 29, 11, -1, -1, -1, -11, -1,
                LEAST, -1, MOST, -1, 4801, -1, 4802, -1);
        Edges.answers("nothing laid: mark", nothingLaid(), StrikeWheels::mark, 0, -1, 1, -1, -1, -1, LEAST, -1, MOST, -1);
        Edges.answers("all: mark", all4800(), StrikeWheels::mark, 0, 2, 4799, 4801, 4800, -1);
    }

    private static void between(StrikeWheels x, int[][] due) {
        for (int[] row : due) {
            Check.same("between(" + row[0] + ", " + row[1] + ")", x.between(row[0], row[1]), row[2]);
        }
    }

    private static void bothIncluded() {
        Edges.sentence("Returns how many marks there are from a number on up to another one (both included)");
        between(eleven(), new int[][] {{5, 13, 4}, {6, 13, 3}, {5, 12, 3}, {6, 12, 2}, {11, 11, 1}, {12, 12, 0}, {2, 29, 11},
            {3, 29, 10}, {2, 28, 10}, {1, 30, 11}, {0, 31, 11}, {LEAST, MOST, 11}, {LEAST, 2, 1}, {LEAST, 1, 0}, {29, MOST, 1},
            {30, MOST, 0}, {LEAST, LEAST, 0}, {MOST, MOST, 0}, {LEAST + 1, MOST - 1, 11}, {2, 2, 1}, {29, 29, 1}});
        between(nothingLaid(), new int[][] {{LEAST, MOST, 0}, {2, 2, 0}, {1, 1, 0}});
    }

    private static void secondSmaller() {
        Edges.sentence("0 if the second one is smaller");
        between(eleven(), new int[][] {{3, 2, 0}, {13, 5, 0}, {29, 2, 0}, {12, 11, 0}, {MOST, LEAST, 0}, {MOST, 2, 0}, {30, 29, 0},
            {2, LEAST, 0}, {31, 1, 0}, {3, 1, 0}});
    }

    private static void divisorNone() {
        Edges.sentence("Returns the smallest mark that divides a number; NONE if there is none, or the number is less than 2.");
        Edges.answers("divisor", eleven(), StrikeWheels::divisor, 2, 2, 3, 3, 4, 2, 25, 5, 29, 29, 841, 29, 31, -1, 961, -1, 899, 29,
                1, -1, 0, -1, -1, -1, -2, -1, -25, -1, LEAST, -1, LEAST + 1, -1, MOST, -1, MOST - 1, 2);
        Edges.answers("nothing laid: divisor", nothingLaid(), StrikeWheels::divisor, 2, -1, 0, -1, MOST - 1, -1);
        StrikeWheels x = Check.of("sieve 0;stretch 48;striker 2;striker 3;");
        Edges.answers("a mark that is no prime: divisor", x, StrikeWheels::divisor, 49, 7, 25, 5, 35, 5, 53, -1, 2809, -1);
        Edges.answers("all: divisor", all4800(), StrikeWheels::divisor, 4801, 4801, 4803, 3, 9602, 2, 4813, -1);
    }

    private static void divisorsNone() {
        Edges.sentence("Returns how many marks divide a number; 0 if it is less than 2.");
        Edges.answers("divisors", eleven(), StrikeWheels::divisors, 2, 1, 3, 1, 4, 1, 25, 2, 50, 3, 30, 3, 31, 0, 1, 0, 0, 0, -1, 0,
                -30, 0, LEAST, 0, LEAST + 1, 0, MOST, 0, MOST - 1, 4);
        Edges.answers("nothing laid: divisors", nothingLaid(), StrikeWheels::divisors, 2, 0, 0, 0, MOST, 0);
        Edges.answers("all: divisors", all4800(), StrikeWheels::divisors, 4801, 1, 4800, 41, 9602, 2, 0, 0);
    }

    private static void longestRun() {
        Edges.sentence("Returns the most marks that follow one another among the laid numbers on spokes, no struck one between.");
        Check.same("nothing laid", nothingLaid().longest(), 0);
        Check.same("one", Check.of("sieve 1;stretch 1;").longest(), 1);
        Check.same("all", all4800().longest(), 4800);
        Check.same("the first run", eleven().longest(), 4);
        Check.same("numbers on no spoke are none between", Check.of("sieve 2;stretch 22;").longest(), 9);
        Check.same("a struck one between", Check.of("sieve 0;stretch 10;striker 3;").longest(), 7);
        Check.same("2 to 8", Check.of("sieve 0;stretch 19;striker 4;striker 3;striker 5;").longest(), 7);
        Check.same("up to LAST", Check.of("sieve 0;stretch 8;striker 2;striker 5;").longest(), 2);
        Check.same("over the ends of stretches", Check.of("sieve 0;stretch 3;stretch 2;stretch 2;striker 3;").longest(), 7);
    }

    private static void chainOfMarks() {
        Edges.sentence("Returns how many marks there are in a row that begins with a number, each next one being twice the one ahead"
                + " and 1 more; 0 if the number is no mark.");
        StrikeWheels x = Check.of("sieve 1;stretch 45;striker 3;striker 5;");
        Edges.answers("LAST 46: chain", x, StrikeWheels::chain, 2, 4, 5, 3, 11, 2, 23, 1, 3, 2, 7, 1, 4, 0, 9, 0, 15, 0, 1, 0, 0, 0,
                -1, 0, -2, 0, 46, 0, 47, 0, LEAST, 0, LEAST + 1, 0, MOST, 0, MOST - 1, 0, 1073741823, 0);
        x.lay(1);
        Edges.answers("LAST 47: chain", x, StrikeWheels::chain, 2, 5, 23, 2, 47, 1);
        Edges.answers("nothing laid: chain", nothingLaid(), StrikeWheels::chain, 1, 0, 2, 0, -1, 0);
        Edges.answers("all: chain", all4800(), StrikeWheels::chain, 2, 11, 4801, 1, 2400, 2, 2401, 1, -1, 0);
    }

    private static void turnOutOfRange() {
        Edges.promise(24, "`turn`: 0 to 5000", "Throws `IllegalArgumentException` if turn is out of range");
        Edges.range("turn", 0, 5000, Edges::busyAndFed, StrikeWheels::turn);
        StrikeWheels x = Check.of("sieve 4;stretch 9;");
        Check.same("far behind LAST", x.turn(5000), 0);
    }

    private static void marksOfATurn() {
        Edges.sentence("Returns the marks of a turn of the wheel: those of the product times turn and 1, up to the product times"
                + " (turn and 1).");
        StrikeWheels x = Check.of("sieve 0;stretch 30;striker 2;");
        Edges.answers("wheel 0: turn", x, StrikeWheels::turn, 0, 0, 1, 1, 2, 1, 3, 0, 30, 1, 31, 0, 5000, 0);
        x.wheel(1);
        Edges.answers("wheel 1: turn", x, StrikeWheels::turn, 0, 1, 1, 1, 2, 1, 15, 1, 16, 0);
        x.wheel(3);
        Edges.answers("wheel 3: turn", x, StrikeWheels::turn, 0, 10, 1, 1, 2, 0);
        StrikeWheels y = Check.of("sieve 0;" + Edges.stretches(12, 400));
        Edges.answers("all: turn", y, StrikeWheels::turn, 0, 0, 1, 1, 4800, 1, 4801, 0, 4799, 1);
        y.wheel(4);
        Edges.answers("wheel 4: turn", y, StrikeWheels::turn, 0, 51, 1, 48, 21, 48, 22, 42, 23, 0);
    }

    private static void nextAboveAndBelow() {
        Edges.sentence("Returns the smallest mark above a number (isBelow: the greatest one below it); NONE if there is none.");
        Edges.answers("above", eleven(), (x, number) -> x.next(number, false), 1, 2, 2, 3, 3, 5, 28, 29, 29, -1, 30, -1, 31, -1,
                0, 2, -1, 2, LEAST, 2, LEAST + 1, 2, MOST, -1, MOST - 1, -1, 4801, -1);
        Edges.answers("below", eleven(), (x, number) -> x.next(number, true), 1, -1, 2, -1, 3, 2, 4, 3, 29, 25, 30, 29, 31, 29, 32, 29,
                0, -1, -1, -1, LEAST, -1, LEAST + 1, -1, MOST, 29, MOST - 1, 29, 4802, 29);
        Edges.answers("nothing laid: above", nothingLaid(), (x, number) -> x.next(number, false), 1, -1, LEAST, -1, MOST, -1);
        Edges.answers("nothing laid: below", nothingLaid(), (x, number) -> x.next(number, true), 3, -1, LEAST, -1, MOST, -1);
        Edges.answers("all: above", all4800(), (x, number) -> x.next(number, false), 4800, 4801, 4801, -1);
        Edges.answers("all: below", all4800(), (x, number) -> x.next(number, true), 4801, 4800, 4802, 4801);
    }

    // ---- gaps, twins

    private static void gapsOutOfRange() {
        Edges.promise(26, "`gap`: 1 to 400", "Throws `IllegalArgumentException` if gap is out of range");
        Edges.range("gaps", 1, 400, Edges::busyAndFed, StrikeWheels::gaps);
    }

    private static void gapsBetweenMarks() {
        Edges.sentence("Returns how many pairs of marks differ by a gap and have no mark between them.");
        Edges.answers("gaps", eleven(), StrikeWheels::gaps, 1, 1, 2, 5, 3, 0, 4, 4, 5, 0, 6, 0, 27, 0, 400, 0);
        Edges.answers("nothing laid: gaps", nothingLaid(), StrikeWheels::gaps, 1, 0, 400, 0);
        Edges.answers("one mark: gaps", Check.of("sieve 0;stretch 1;"), StrikeWheels::gaps, 1, 0);
        Edges.answers("two marks: gaps", Check.of("sieve 0;stretch 2;"), StrikeWheels::gaps, 1, 1, 2, 0);
        Edges.answers("all: gaps", all4800(), StrikeWheels::gaps, 1, 4799, 2, 0, 400, 0);
        StrikeWheels x = Check.of("sieve 4;stretch 95;");
        Edges.answers("LAST 96: gaps", x, StrikeWheels::gaps, 8, 0);
        x.lay(1);
        Edges.answers("LAST 97: gaps", x, StrikeWheels::gaps, 8, 1);
    }

    private static void widestOfFew() {
        Edges.sentence("Returns the greatest difference of two marks without a mark between them; 0 with fewer than two marks.");
        Check.same("none", nothingLaid().widest(), 0);
        Check.same("one", Check.of("sieve 0;stretch 1;").widest(), 0);
        Check.same("two", Check.of("sieve 0;stretch 2;").widest(), 1);
        Check.same("three", Check.of("sieve 1;stretch 4;").widest(), 2);
        StrikeWheels x = Check.of("sieve 4;stretch 95;");
        Check.same("up to LAST 96", x.widest(), 6);
        x.lay(1);
        Check.same("up to LAST 97", x.widest(), 8);
    }

    private static void firstOfTheWidest() {
        Edges.sentence("Returns the smaller one of the first two marks with the difference widest; NONE with fewer than two marks.");
        Check.same("none", nothingLaid().widestAt(), -1);
        Check.same("one", Check.of("sieve 0;stretch 1;").widestAt(), -1);
        Check.same("two", Check.of("sieve 0;stretch 2;").widestAt(), 2);
        Check.same("all the same", all4800().widestAt(), 2);
        Check.same("7 to 11, as 13 to 17 and 19 to 23", eleven().widestAt(), 7);
        StrikeWheels x = Check.of("sieve 4;stretch 95;");
        Check.same("23 to 29, as 31 to 37", x.widestAt(), 23);
        x.lay(1);
        Check.same("89 to 97", x.widestAt(), 89);
    }

    private static void twinsOutOfRange() {
        Edges.promise(29, "`gap`: 1 to 400", "Throws `IllegalArgumentException` if gap is out of range");
        Edges.range("twins", 1, 400, Edges::busyAndFed, StrikeWheels::twins);
    }

    private static void twinsWithAGap() {
        Edges.sentence("Returns how many marks there are whose sum with a gap is a mark, too.");
        Edges.answers("twins", eleven(), StrikeWheels::twins, 1, 1, 2, 5, 4, 5, 6, 7, 26, 1, 27, 1, 28, 0, 400, 0);
        Edges.answers("nothing laid: twins", nothingLaid(), StrikeWheels::twins, 1, 0, 400, 0);
        StrikeWheels x = Check.of("sieve 0;stretch 400;");
        Edges.answers("LAST 401: twins", x, StrikeWheels::twins, 398, 2, 399, 1, 400, 0);
        x.lay(1);
        Edges.answers("LAST 402: twins", x, StrikeWheels::twins, 399, 2, 400, 1);
    }

    // ---- sums

    private static void sumsOfTwo() {
        Edges.sentence("Returns in how many ways a number is the sum of two marks (the order does not matter; twice the same is"
                + " allowed).");
        Edges.answers("sums", eleven(), StrikeWheels::sums, 3, 0, 4, 1, 5, 1, 6, 1, 8, 1, 10, 2, 34, 3, 50, 1, 54, 1, 57, 0, 58, 1,
                59, 0, 2, 0, 1, 0, 0, 0, -1, 0, -4, 0, LEAST, 0, LEAST + 1, 0, MOST, 0, MOST - 1, 0);
        Edges.answers("nothing laid: sums", nothingLaid(), StrikeWheels::sums, 4, 0, 2, 0, LEAST, 0, MOST, 0);
        Edges.answers("all: sums", all4800(), StrikeWheels::sums, 4, 1, 9602, 1, 9601, 1, 9600, 2, 9603, 0, 4803, 2400, 4802, 2400);
    }

    private static void leastOfNone() {
        Edges.sentence("Returns the smallest mark of such a sum with the greatest difference of both; NONE if there is none.");
        Edges.answers("leastOf", eleven(), StrikeWheels::leastOf, 3, -1, 4, 2, 5, 2, 6, 3, 10, 3, 28, 3, 34, 5, 36, 7, 58, 29, 57, -1,
                59, -1, 2, -1, 0, -1, -1, -1, -4, -1, LEAST, -1, LEAST + 1, -1, MOST, -1, MOST - 1, -1);
        Edges.answers("nothing laid: leastOf", nothingLaid(), StrikeWheels::leastOf, 4, -1, LEAST, -1, MOST, -1);
        Edges.answers("all: leastOf", all4800(), StrikeWheels::leastOf, 4, 2, 4803, 2, 4804, 3, 9601, 4800, 9602, 4801, 9603, -1);
    }

    // ---- thickest

    private static void thickestOutOfRange() {
        Edges.promise(32, "`many`: 1 to 400", "Throws `IllegalArgumentException` if many is out of range");
        Edges.range("thickest", 1, 400, Edges::busyAndFed, StrikeWheels::thickest);
    }

    private static void thickestOfSome() {
        Edges.sentence("Returns the most marks that are laid numbers of some that follow one another, as many as told.");
        Edges.answers("thickest", eleven(), StrikeWheels::thickest, 1, 1, 2, 2, 3, 2, 4, 3, 5, 3, 6, 4, 27, 10, 28, 11, 29, 11);
        Edges.answers("nothing laid: thickest", nothingLaid(), StrikeWheels::thickest, 1, 0, 400, 0);
        Edges.answers("all: thickest", all4800(), StrikeWheels::thickest, 1, 1, 399, 399, 400, 400);
        StrikeWheels x = Check.of("sieve 0;stretch 8;striker 2;striker 4;");
        Check.same("at the front", x.thickest(2), 2);
        Edges.answers("LAST 2: thickest", Check.of("sieve 0;stretch 1;"), StrikeWheels::thickest, 1, 1);
        Edges.answers("LAST 3: thickest", Check.of("sieve 0;stretch 2;"), StrikeWheels::thickest, 1, 1, 2, 2);
        Edges.answers("up to LAST: thickest", Check.of("sieve 0;stretch 5;"), StrikeWheels::thickest, 4, 4, 5, 5);
        StrikeWheels y = Check.of("sieve 0;stretch 400;stretch 400;striker 2;striker 3;");
        Check.same("the last 400 have fewer", y.thickest(400), 135);
    }

    // ---- what is right

    private static void wrongMarks() {
        Edges.sentence("Returns marks that are no primes.");
        Check.same("none laid", nothingLaid().wrong(), 0);
        StrikeWheels x = Check.of("sieve 1;stretch 7;");
        Check.same("LAST 8", x.wrong(), 0);
        x.lay(1);
        Check.same("LAST 9", x.wrong(), 1);
        x.add(3);
        Check.same("9 is struck", x.wrong(), 0);
        Check.same("all but 647", all4800().wrong(), 4800 - 647);
        Check.same("49", Check.of("sieve 3;stretch 48;").wrong(), 1);
    }

    private static void firstWrongNone() {
        Edges.sentence("Returns the smallest mark that is no prime; NONE if there is none.");
        Check.same("none laid", nothingLaid().firstWrong(), -1);
        StrikeWheels x = Check.of("sieve 1;stretch 7;");
        Check.same("LAST 8", x.firstWrong(), -1);
        x.lay(1);
        Check.same("LAST 9", x.firstWrong(), 9);
        x.wheel(0);
        Check.same("4", x.firstWrong(), 4);
        Check.same("121", Check.of("sieve 4;stretch 120;").firstWrong(), 121);
        Check.same("120 is LAST", Check.of("sieve 4;stretch 119;").firstWrong(), -1);
    }

    private static void gapIsZero() {
        Edges.sentence("Returns primes that are laid and have no mark, and marks that are no primes if no striker is missing,"
                + " together (always 0).");
        Check.same("new", eleven().gap(), 0);
        Check.same("none laid", nothingLaid().gap(), 0);
        Check.same("all", all4800().gap(), 0);
        Check.same("one", Check.of("sieve 4;stretch 1;").gap(), 0);
        StrikeWheels x = all4800();
        x.fill(18);
        Check.same("one missing", x.gap(), 0);
        x.fill(1);
        Check.same("none missing", x.gap(), 0);
        Check.same("with all strikers", Edges.withAllStrikers().gap(), 0);
    }

    private static void missingNone() {
        Edges.sentence("Returns the smallest number that could be a striker and is missing; NONE if there is none.");
        Check.same("none laid", nothingLaid().missing(), -1);
        StrikeWheels x = Check.of("sieve 0;stretch 2;");
        Check.same("LAST 3", x.missing(), -1);
        x.lay(1);
        Check.same("LAST 4", x.missing(), 2);
        x.wheel(1);
        Check.same("a wheel prime", x.missing(), -1);
        x.lay(4);
        Check.same("LAST 8", x.missing(), -1);
        x.lay(1);
        Check.same("LAST 9", x.missing(), 3);
        x.add(3);
        Check.same("one already", x.missing(), -1);
        x.lift(3);
        x.lay(72);
        Check.same("LAST 81, 3 missing", x.missing(), 3);
        StrikeWheels y = Check.of("sieve 1;stretch 79;striker 3;striker 5;striker 7;");
        y.lay(1);
        Check.same("9 has no mark", y.missing(), -1);
        Check.same("with 30 strikers, too", Edges.withAllStrikers().missing(), 2);
    }

    // ---- what would be

    private static void takesOutOfRange() {
        Edges.promise(37, "`d`: 2 to 120", "Throws `IllegalArgumentException` if d is out of range");
        Edges.range("takes", 2, 120, Edges::busyAndFed, StrikeWheels::takes);
    }

    private static void takesIfAdded() {
        Edges.sentence("Returns how many marks a striker would take away if it was added.");
        StrikeWheels x = Check.of("sieve 0;stretch 23;striker 3;");
        Edges.answers("LAST 24: takes", x, StrikeWheels::takes, 5, 0, 4, 2, 2, 8, 3, 0, 120, 0);
        x.lay(1);
        Edges.answers("LAST 25: takes", x, StrikeWheels::takes, 5, 1, 2, 8);
        x.wheel(1);
        Edges.answers("wheel 1: takes", x, StrikeWheels::takes, 5, 1, 2, 0, 4, 0);
        Edges.answers("nothing laid: takes", nothingLaid(), StrikeWheels::takes, 2, 0, 120, 0);
        Edges.answers("all: takes", all4800(), StrikeWheels::takes, 2, 2399, 69, 1, 70, 0, 68, 3, 120, 0);
    }

    private static void givesNoSuch() {
        Edges.promise(38, "Throws `NoSuchElementException` if there is no such striker");
        Edges.numbered("gives", 4, Edges::busyAndFed, StrikeWheels::gives);
        Edges.numbered("none: gives", 0, Edges::withoutAny, StrikeWheels::gives);
        Edges.numbered("30: gives", 30, Edges::withAllStrikers, StrikeWheels::gives);
    }

    private static void givesWithout() {
        Edges.sentence("Returns how many marks there would be more without a striker.");
        StrikeWheels x = Check.of("sieve 0;stretch 35;striker 6;striker 2;striker 4;striker 3;striker 11;");
        Edges.answers("gives", x, StrikeWheels::gives, 0, 0, 1, 8, 2, 0, 3, 5, 4, 0);
        StrikeWheels y = Check.of("sieve 0;stretch 23;striker 5;");
        Check.same("25 is above LAST", y.gives(0), 0);
        y.lay(1);
        Check.same("25 is LAST", y.gives(0), 1);
    }

    private static void bestNone() {
        Edges.sentence("NONE if none would take any");
        Check.same("nothing laid", nothingLaid().best(), -1);
        StrikeWheels x = Check.of("sieve 0;stretch 2;");
        Check.same("LAST 3", x.best(), -1);
        x.lay(1);
        Check.same("LAST 4", x.best(), 2);
        x.add(2);
        Check.same("4 is struck", x.best(), -1);
        StrikeWheels y = Check.of("sieve 4;stretch 119;");
        Check.same("LAST 120", y.best(), -1);
        y.lay(1);
        Check.same("LAST 121", y.best(), 11);
    }

    private static void bestOfSeveral() {
        Edges.sentence("Returns the D (2 to 120) that would take the most marks away, of several the smallest");
        Check.same("the smallest D there is", all4800().best(), 2);
        StrikeWheels x = Check.of("sieve 1;stretch 52;striker 3;");
        Check.same("25, 35 against 49", x.best(), 5);
        x.add(35);
        Check.same("25, 35 against 49 again", x.best(), 5);
        x.lift(35);
        x.add(5);
        Check.same("49", x.best(), 7);
        StrikeWheels y = Check.of("sieve 0;stretch 9;striker 2;");
        Check.same("9 is left", y.best(), 3);
        StrikeWheels tie = Check.of("sieve 0;stretch 140;striker 4;striker 6;striker 10;");
        Edges.answers("takes", tie, StrikeWheels::takes, 2, 26, 3, 26, 5, 15);
        Check.same("2 and 3 take the same", tie.best(), 2);
        StrikeWheels far = Check.of("sieve 4;" + Edges.stretches(12, 400) + Edges.strikers(11, 30));
        Check.same("11 to 40 are there", far.best(), 41);
        far.lift(11);
        Check.same("11 takes the most again", far.best(), 11);
    }

    private static void marksNextOutOfRange() {
        Edges.promise(40, "`room`: 1 to 400", "Throws `IllegalArgumentException` if room is out of range");
        Edges.range("marksNext", 1, 400, Edges::busyAndFed, StrikeWheels::marksNext);
    }

    private static void marksNextWithoutRoom() {
        Edges.sentence("Returns marks of the next stretch if it was laid now with a ROOM (whether there could be one more or not).");
        StrikeWheels full = all4800();
        Edges.answers("12 stretches: marksNext", full, StrikeWheels::marksNext, 1, 1, 400, 400);
        full.wheel(1);
        Edges.answers("12 stretches, wheel 1: marksNext", full, StrikeWheels::marksNext, 1, 0, 2, 1, 400, 200);
        full.add(120);
        full.add(69);
        Edges.answers("4830 is on no spoke, 4899 is struck: marksNext", full, StrikeWheels::marksNext, 97, 48, 98, 48, 400, 197);
        Check.same("lay is refused", full.lay(1), -2);
        StrikeWheels eleven = Check.of("sieve 1;" + Edges.stretches(11, 4) + "striker 3;striker 5;");
        Check.same("the 12th one", eleven.marksNext(30), eleven.lay(30));
        StrikeWheels none = Check.of("sieve 2;striker 5;");
        Edges.answers("none yet: marksNext", none, StrikeWheels::marksNext, 1, 1, 2, 2, 3, 2, 4, 3, 24, 9, 30, 11);
    }

    private static void leastWheelNone() {
        Edges.sentence("Returns the smallest WHEEL with which no striker would be missing; NONE if there is none.");
        Check.same("LAST 3", Check.of("sieve 4;stretch 2;").leastWheel(), 0);
        Check.same("LAST 4", Check.of("sieve 4;stretch 3;").leastWheel(), 1);
        Check.same("LAST 8", Check.of("sieve 0;stretch 7;").leastWheel(), 1);
        Check.same("LAST 9", Check.of("sieve 0;stretch 8;").leastWheel(), 2);
        Check.same("LAST 24", Check.of("sieve 0;stretch 23;").leastWheel(), 2);
        Check.same("LAST 25", Check.of("sieve 0;stretch 24;").leastWheel(), 3);
        Check.same("LAST 48", Check.of("sieve 0;stretch 47;").leastWheel(), 3);
        Check.same("LAST 49", Check.of("sieve 0;stretch 48;").leastWheel(), 4);
        Check.same("LAST 120", Check.of("sieve 0;stretch 119;").leastWheel(), 4);
        Check.same("LAST 121", Check.of("sieve 0;stretch 120;").leastWheel(), -1);
        Check.same("LAST 121, with 11", Check.of("sieve 0;stretch 120;striker 11;").leastWheel(), 4);
        Check.same("LAST 121, with all", Check.of("sieve 4;stretch 120;striker 11;striker 7;striker 5;striker 3;striker 2;")
                .leastWheel(), 0);
        Check.same("nothing laid", nothingLaid().leastWheel(), 0);
    }

    private static void nothingChanges() {
        Edges.sentence("says: ---- what would be; nothing changes.");
        Edges.tellsAndKeeps("takes", Edges::busyAndFed, x -> x.takes(11));
        Edges.tellsAndKeeps("gives", Edges::busyAndFed, x -> x.gives(0));
        Edges.tellsAndKeeps("best", Edges::busyAndFed, StrikeWheels::best);
        Edges.tellsAndKeeps("marksNext", Edges::busyAndFed, x -> x.marksNext(400));
        Edges.tellsAndKeeps("leastWheel", Edges::busyAndFed, StrikeWheels::leastWheel);
        Edges.tellsAndKeeps("12 stretches: marksNext", Edges::withAllStretches, x -> x.marksNext(400));
        Edges.tellsAndKeeps("30 strikers: takes", Edges::withAllStrikers, x -> x.takes(2));
        Edges.tellsAndKeeps("30 strikers: best", Edges::withAllStrikers, StrikeWheels::best);
        Edges.tellsAndKeeps("marks", Edges::busyAndFed, x -> x.upTo(9) + x.mark(3) + x.between(3, 9) + x.divisor(9) + x.divisors(9)
                + x.longest() + x.chain(5) + x.turn(1) + x.next(9, true) + x.gaps(2) + x.widest() + x.widestAt() + x.twins(2)
                + x.sums(10) + x.leastOf(10) + x.thickest(9));
        Edges.tellsAndKeeps("what is right", Edges::busyAndFed, x -> x.wrong() + x.firstWrong() + x.gap() + x.missing());
        Edges.tellsAndKeeps("measures", Edges::busyAndFed, x -> x.shareBits() + (long) (x.useful() + x.spokeShare()));
    }

    // ---- measures

    private static void share(StrikeWheels x, int marks, int laid) {
        Check.same("shareBits of " + marks + " of " + laid, x.shareBits(), Float.floatToRawIntBits((float) marks / (float) laid));
    }

    private static void shareWithoutNumbers() {
        Edges.sentence("Returns marks divided by laid numbers, as floats (both converted, then divided), told as the bits of that"
                + " float; those of 0.0f without laid numbers.");
        Check.same("nothing laid", nothingLaid().shareBits(), 0);
        share(Check.of("sieve 1;stretch 1;"), 1, 1);
        Check.same("all of them", all4800().shareBits(), 0x3f800000);
        share(Check.of("sieve 1;stretch 3;"), 2, 3);
        share(Check.of("sieve 0;stretch 4;striker 2;"), 3, 4);
        share(eleven(), 11, 29);
        share(Check.of("sieve 2;" + Edges.stretches(12, 400)), 1602, 4800);
        StrikeWheels x = all4800();
        x.fill(19);
        share(x, 647, 4800);
        x.drop();
        Check.same("LAST is 4401", x.shareBits(), Float.floatToRawIntBits((float) x.size(4) / 4400f));
    }

    private static void useful(String what, StrikeWheels x, double due) {
        Check.same("useful, " + what, Double.doubleToRawLongBits(x.useful()), Double.doubleToRawLongBits(due));
    }

    private static void usefulWithoutStrikes() {
        Edges.sentence("Returns laid numbers that strikers own divided by all strikes (for each striker the laid numbers that it"
                + " strikes), as doubles (both converted, then divided); 1 without strikes.");
        useful("nothing laid", nothingLaid(), 1.0);
        useful("no strikers", Check.of("sieve 0;stretch 30;"), 1.0);
        useful("9 is above LAST", Check.of("sieve 0;stretch 7;striker 3;"), 1.0);
        useful("9 is LAST", Check.of("sieve 0;stretch 8;striker 3;"), 1.0);
        useful("a striker on no spoke", Check.of("sieve 1;stretch 30;striker 2;"), 1.0);
        useful("4 and 2 strike 16", Check.of("sieve 0;stretch 15;striker 4;striker 2;"), 7.0 / 8.0);
        useful("15 is LAST", Check.of("sieve 0;stretch 14;striker 4;striker 2;"), 1.0);
        useful("of three", Check.of("sieve 0;stretch 39;striker 2;striker 3;striker 6;"), 25.0 / 31.0);
    }

    private static void spokeShare(String what, StrikeWheels x, float due) {
        Check.same("spokeShare, " + what, Float.floatToRawIntBits(x.spokeShare()), Float.floatToRawIntBits(due));
    }

    private static void spokeShareWithoutNumbers() {
        Edges.sentence("Returns laid numbers on spokes divided by laid numbers, as floats (both converted, then divided); 0 without"
                + " laid numbers.");
        spokeShare("nothing laid", nothingLaid(), 0.0f);
        spokeShare("2", Check.of("sieve 4;stretch 1;"), 1.0f);
        spokeShare("without a wheel", all4800(), 1.0f);
        spokeShare("new", eleven(), 15.0f / 29.0f);
        spokeShare("2, 3, 4", Check.of("sieve 1;stretch 3;"), 2.0f / 3.0f);
        spokeShare("wheel 4", Check.of("sieve 4;stretch 9;"), 4.0f / 9.0f);
    }
}
