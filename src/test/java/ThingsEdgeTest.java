/** The boundary cases of promise 1 and of "what there is", promises 5 to 16, and of format, 56 and 57. */
public final class ThingsEdgeTest {
    private ThingsEdgeTest() {
    }

    public static void main(String[] args) {
        newObject();
        sizeOutOfRange();
        sizeWithoutWheelPrimes();
        sizeOfMarksAndSpokes();
        sizeOfMissing();
        sizeOfIdle();
        accountOutOfRange();
        noSuchStretch();
        stretchWhat();
        stretchWithoutMarks();
        noSuchStriker();
        strikerWhat();
        smallestAboveLast();
        strikesNoneAtAll();
        strikerPrime();
        smallestOwned();
        findNone();
        notLaidAheadOfAll();
        causeOfEach();
        struckNotLaid();
        noSuchPlace();
        spokeOfProduct();
        spokeOfNone();
        bothLaid();
        meetNone();
        noSuchPair();
        formatRuns();
        formatNoSuchStretch();
        formattedByteNone();
        formattedByteAsItWas();
        tellingChangesNothing();
        Check.close("ThingsEdgeTest");
    }

    private static void newObject() {
        Edges.sentence("Creates a sieve as by the text \"sieve 1;stretch 29;striker 3;\", with an empty buffer, all accounts 0.");
        Check.sameText("as by the text", Edges.picture(new StrikeWheels(), 0, true),
                Edges.picture(Check.of("sieve 1;stretch 29;striker 3;"), 0, true));
        StrikeWheels x = new StrikeWheels();
        int[] due = {1, 1, 30, 1, 11, 15, 2, 1, 1, 0};
        for (int what = 0; what < due.length; what++) {
            Check.same("size(" + what + ")", x.size(what), due[what]);
        }
        for (int what = 0; what <= 4; what++) {
            Check.same("account(" + what + ")", x.account(what), 0);
        }
        Check.same("its striker", x.striker(0, 0), 3);
        Check.illegalArgument("an empty buffer", () -> x.play(1));
        Check.same("an empty buffer: feed", x.feed(0, 0, 0, 0, 0), 20);
        Check.same("NONE", StrikeWheels.NONE, -1);
    }

    // ---- size, account

    private static void sizeOutOfRange() {
        Edges.promise(5, "Throws `IllegalArgumentException` if what is out of range");
        Edges.range("size", 0, 9, Edges::busyAndFed, StrikeWheels::size);
        Edges.range("size without any", 0, 9, Edges::withoutAny, StrikeWheels::size);
    }

    private static void sizeWithoutWheelPrimes() {
        Edges.sentence("6 the product of the wheel primes (1 without any), 7 how many of the numbers 1 to this product"
                + " no wheel prime divides");
        StrikeWheels x = new StrikeWheels();
        int[] products = {1, 2, 6, 30, 210};
        int[] spokes = {1, 1, 2, 8, 48};
        for (int wheel = 0; wheel <= 4; wheel++) {
            x.wheel(wheel);
            Check.same("wheel " + wheel + ": size(6)", x.size(6), products[wheel]);
            Check.same("wheel " + wheel + ": size(7)", x.size(7), spokes[wheel]);
        }
    }

    private static void sizeOfMarksAndSpokes() {
        Edges.sentence("4 marks, 5 laid numbers on spokes");
        StrikeWheels none = Check.of("sieve 2;striker 5;");
        Check.same("nothing laid: marks", none.size(4), 0);
        Check.same("nothing laid: spokes", none.size(5), 0);
        StrikeWheels x = Check.of("sieve 2;stretch 23;striker 5;");
        Check.same("LAST 24: marks", x.size(4), 9);
        Check.same("LAST 24: spokes", x.size(5), 9);
        x.lay(1);
        Check.same("LAST 25, struck: marks", x.size(4), 9);
        Check.same("LAST 25, struck: spokes", x.size(5), 10);
        x.lay(1);
        Check.same("LAST 26, on no spoke: spokes", x.size(5), 10);
        StrikeWheels all = Check.of("sieve 0;" + Edges.stretches(12, 400));
        Check.same("all laid: marks", all.size(4), 4800);
        Check.same("all laid: spokes", all.size(5), 4800);
    }

    private static void sizeOfMissing() {
        Edges.sentence("8 strikers that are missing");
        Edges.answers("size", Check.of("sieve 0;"), StrikeWheels::size, 8, 0);
        Edges.answers("LAST 3: size", Check.of("sieve 0;stretch 2;"), StrikeWheels::size, 8, 0);
        Edges.answers("LAST 4: size", Check.of("sieve 0;stretch 3;"), StrikeWheels::size, 8, 1);
        Edges.answers("LAST 4, 2 in the row: size", Check.of("sieve 0;stretch 3;striker 2;"), StrikeWheels::size, 8, 0);
        Edges.answers("LAST 120: size", Check.of("sieve 4;stretch 119;"), StrikeWheels::size, 8, 0);
        Edges.answers("LAST 121: size", Check.of("sieve 4;stretch 120;"), StrikeWheels::size, 8, 1);
    }

    private static void sizeOfIdle() {
        Edges.sentence("9 strikers that own no laid number");
        StrikeWheels x = Check.of("sieve 0;stretch 23;striker 5;");
        Check.same("25 is not laid", x.size(9), 1);
        x.lay(1);
        Check.same("25 is laid", x.size(9), 0);
        x.add(4);
        Check.same("4 owns 16", x.size(9), 0);
        x.add(2);
        x.first(2);
        Check.same("2 strikes all that 4 strikes", x.size(9), 1);
        x.wheel(3);
        Check.same("on no spoke", x.size(9), 3);
        StrikeWheels none = Check.of("sieve 0;" + Edges.strikers(2, 30));
        Check.same("nothing laid", none.size(9), 30);
    }

    private static void accountOutOfRange() {
        Edges.promise(6, "`what`: 0 to 4", "Returns an account.", "Throws `IllegalArgumentException` if what is out of range");
        Edges.range("account", 0, 4, Edges::busyAndFed, StrikeWheels::account);
        StrikeWheels x = Edges.busy();
        Edges.answers("account", x, StrikeWheels::account, 0, 3, 1, 1, 2, 1, 3, 1, 4, 1);
    }

    // ---- stretch

    private static void noSuchStretch() {
        Edges.promise(7, "Throws `NoSuchElementException` if there is no such stretch (checked first)");
        Edges.numbered("stretch(.., 0)", 3, Edges::busyAndFed, (x, number) -> x.stretch(number, 0));
        Edges.numbered("none: stretch(.., 5)", 0, Edges::withoutAny, (x, number) -> x.stretch(number, 5));
        Edges.numbered("12: stretch(.., 1)", 12, Edges::withAllStretches, (x, number) -> x.stretch(number, 1));
        for (int stretch : new int[] {-1, 3, Edges.LEAST, Edges.MOST}) {
            for (int what : new int[] {-1, 6, Edges.LEAST, Edges.MOST}) {
                Edges.throwsAndKeeps("stretch(" + stretch + ", " + what + ")", Edges.NO_SUCH_ELEMENT, Edges::busyAndFed,
                        x -> x.stretch(stretch, what));
            }
        }
    }

    private static void stretchWhat() {
        Edges.promise(7, "Returns a number of a stretch: what 0 its first number, 1 its last one, 2 its marks,"
                + " 3 its numbers on spokes, 4 its first mark, 5 its last mark",
                "Throws `IllegalArgumentException` if what is out of range");
        Edges.range("stretch(0, ..)", 0, 5, Edges::busyAndFed, (x, what) -> x.stretch(0, what));
        Edges.range("stretch(2, ..)", 0, 5, Edges::busyAndFed, (x, what) -> x.stretch(2, what));
        StrikeWheels x = Check.of("sieve 1;stretch 5;stretch 3;stretch 4;striker 3;");
        int[][] due = {{2, 6, 3, 3, 2, 5}, {7, 9, 1, 2, 7, 7}, {10, 13, 2, 2, 11, 13}};
        for (int stretch = 0; stretch < due.length; stretch++) {
            for (int what = 0; what < 6; what++) {
                Check.same("stretch(" + stretch + ", " + what + ")", x.stretch(stretch, what), due[stretch][what]);
            }
        }
    }

    private static void stretchWithoutMarks() {
        Edges.sentence("(each NONE without any)");
        StrikeWheels x = Check.of("sieve 1;stretch 6;stretch 2;stretch 1;stretch 1;striker 3;");
        Check.same("8, 9: marks", x.stretch(1, 2), 0);
        Check.same("8, 9: the first one", x.stretch(1, 4), -1);
        Check.same("8, 9: the last one", x.stretch(1, 5), -1);
        Check.same("10: the first one", x.stretch(2, 4), -1);
        Check.same("10: the last one", x.stretch(2, 5), -1);
        Check.same("11: the first one", x.stretch(3, 4), 11);
        Check.same("11: the last one", x.stretch(3, 5), 11);
        Check.same("2 to 7: the first one", x.stretch(0, 4), 2);
        Check.same("2 to 7: the last one", x.stretch(0, 5), 7);
        StrikeWheels y = Check.of("sieve 0;stretch 1;stretch 2;stretch 1;striker 2;striker 5;");
        Check.same("3, 4: the last one", y.stretch(1, 5), 3);
        Check.same("5: the first one", y.stretch(2, 4), 5);
        StrikeWheels all = Check.of("sieve 0;stretch 3;stretch 3;stretch 3;");
        Check.same("the number ahead has a mark, too: the first one", all.stretch(1, 4), 5);
        Check.same("the number behind has a mark, too: the last one", all.stretch(1, 5), 7);
    }

    // ---- striker, find

    private static void noSuchStriker() {
        Edges.promise(8, "Throws `NoSuchElementException` if there is no such striker (checked first)");
        Edges.numbered("striker(.., 0)", 4, Edges::busyAndFed, (x, number) -> x.striker(number, 0));
        Edges.numbered("none: striker(.., 5)", 0, Edges::withoutAny, (x, number) -> x.striker(number, 5));
        Edges.numbered("30: striker(.., 3)", 30, Edges::withAllStrikers, (x, number) -> x.striker(number, 3));
        for (int striker : new int[] {-1, 4, Edges.LEAST, Edges.MOST}) {
            for (int what : new int[] {-1, 6, Edges.LEAST, Edges.MOST}) {
                Edges.throwsAndKeeps("striker(" + striker + ", " + what + ")", Edges.NO_SUCH_ELEMENT, Edges::busyAndFed,
                        x -> x.striker(striker, what));
            }
        }
    }

    private static void strikerWhat() {
        Edges.promise(8, "Returns a number of a striker: what 0 D, 1 the laid numbers that it strikes,"
                + " 2 those of them that it owns", "Throws `IllegalArgumentException` if what is out of range");
        Edges.range("striker(0, ..)", 0, 5, Edges::busyAndFed, (x, what) -> x.striker(0, what));
        Edges.range("striker(3, ..)", 0, 5, Edges::busyAndFed, (x, what) -> x.striker(3, what));
        StrikeWheels x = Check.of("sieve 0;stretch 34;striker 3;striker 2;striker 6;");
        int[][] due = {{3, 9, 9}, {2, 16, 12}, {6, 0, 0}};
        for (int striker = 0; striker < due.length; striker++) {
            for (int what = 0; what < 3; what++) {
                Check.same("LAST 35: striker(" + striker + ", " + what + ")", x.striker(striker, what), due[striker][what]);
            }
        }
        x.lay(1);
        int[][] then = {{3, 10, 10}, {2, 17, 12}, {6, 1, 0}};
        for (int striker = 0; striker < then.length; striker++) {
            for (int what = 0; what < 3; what++) {
                Check.same("LAST 36: striker(" + striker + ", " + what + ")", x.striker(striker, what), then[striker][what]);
            }
        }
    }

    private static void smallestAboveLast() {
        Edges.sentence("3 the smallest number above LAST that it strikes");
        StrikeWheels x = Check.of("sieve 0;stretch 23;striker 5;striker 2;striker 120;striker 26;striker 11;");
        Edges.answers("LAST 24: striker", x, (y, striker) -> y.striker(striker, 3), 0, 25, 1, 26, 2, 14400, 3, 676, 4, 121);
        x.lay(1);
        Edges.answers("LAST 25: striker", x, (y, striker) -> y.striker(striker, 3), 0, 30, 1, 26, 3, 676);
        x.lay(1);
        Edges.answers("LAST 26: striker", x, (y, striker) -> y.striker(striker, 3), 0, 30, 1, 28);
        x.wheel(1);
        Edges.answers("wheel 1: striker", x, (y, striker) -> y.striker(striker, 3), 0, 35, 1, -1, 2, -1, 3, -1, 4, 121);
        StrikeWheels last = Check.of("sieve 4;" + Edges.stretches(12, 400) + "striker 11;striker 67;striker 71;striker 113;");
        Edges.answers("LAST 4801: striker", last, (y, striker) -> y.striker(striker, 3), 0, 4807, 1, 4891, 2, 5041, 3, 12769);
        StrikeWheels none = Check.of("sieve 0;striker 2;striker 3;");
        Edges.answers("LAST 1: striker", none, (y, striker) -> y.striker(striker, 3), 0, 4, 1, 9);
        StrikeWheels far = Check.of("sieve 4;stretch 112;striker 11;");
        Check.same("121 when 113 is LAST", far.striker(0, 3), 121);
        far.lay(10);
        Check.same("the next ones of 11 on spokes: 143", far.striker(0, 3), 143);
        far.lay(400);
        Check.same("behind 523: 539 and 550 are on none, 561 neither, 583 is", far.striker(0, 3), 583);
    }

    private static void strikesNoneAtAll() {
        Edges.sentence("(NONE if it strikes none at all)");
        int[] wheels = {1, 2, 3, 4};
        int[] primes = {2, 3, 5, 7};
        for (int wheel : wheels) {
            int prime = primes[wheel - 1];
            StrikeWheels x = Check.of("sieve " + wheel + ";stretch 30;striker " + prime + ";striker " + 11 * prime + ";striker 11;");
            Check.same(prime + " is a wheel prime", x.striker(0, 3), -1);
            if (11 * prime <= 120) {
                Check.same("a wheel prime divides " + 11 * prime, x.striker(1, 3), -1);
            }
            Check.same("11 strikes one", x.striker(2, 3), 121);
            x.wheel(wheel - 1);
            Check.same(prime + " is none", x.striker(0, 3) > 30 ? 1 : 0, 1);
        }
    }

    private static void strikerPrime() {
        Edges.sentence("4 1 if D is a prime, otherwise 0");
        int[][] due = {{2, 1}, {3, 1}, {4, 0}, {5, 1}, {9, 0}, {25, 0}, {49, 0}, {113, 1}, {119, 0}, {120, 0}, {91, 0}, {97, 1},
            {77, 0}, {6, 0}, {7, 1}};
        for (int[] row : due) {
            Check.same("striker " + row[0], Check.of("sieve 2;striker " + row[0] + ";").striker(0, 4), row[1]);
        }
    }

    private static void smallestOwned() {
        Edges.sentence("5 the smallest laid number that it owns (NONE).");
        StrikeWheels x = Check.of("sieve 0;stretch 35;striker 2;striker 6;striker 3;striker 4;striker 7;");
        Edges.answers("striker", x, (y, striker) -> y.striker(striker, 5), 0, 4, 1, -1, 2, 9, 3, -1, 4, -1);
        x.lay(13);
        Check.same("49 is laid", x.striker(4, 5), 49);
        x.first(6);
        Check.same("36 is owned by the first", x.striker(0, 5), 36);
        x.drop();
        x.trim(34);
        Check.same("36 is not laid", x.striker(0, 5), -1);
    }

    private static void findNone() {
        Edges.sentence("Returns the striker with a D; NONE if there is none.");
        StrikeWheels x = Check.of("sieve 1;" + Edges.strikers(91, 29) + "striker 2;");
        Edges.answers("find", x, StrikeWheels::find, 91, 0, 92, 1, 119, 28, 2, 29, 120, -1, 90, -1, 1, -1, 0, -1, -1, -1, 121, -1,
                Edges.LEAST, -1, Edges.MOST, -1, -91, -1);
        x.lift(91);
        Edges.answers("without 91: find", x, StrikeWheels::find, 91, -1, 92, 0, 2, 28);
        x.lift(2);
        Edges.answers("without the last one: find", x, StrikeWheels::find, 2, -1, 119, 27);
        StrikeWheels none = Check.of("sieve 1;");
        Edges.answers("none: find", none, StrikeWheels::find, 0, -1, 2, -1, -1, -1);
    }

    // ---- at, cause, struck

    private static void notLaidAheadOfAll() {
        Edges.sentence("Returns what a number is: 0 marked, 1 on no spoke, 2 struck, 3 not laid (ahead of all others).");
        StrikeWheels x = Check.of("sieve 1;stretch 7;striker 3;");
        Edges.answers("LAST 8: at", x, StrikeWheels::at, 8, 1, 9, 3, 10, 3, 11, 3, 1, 3, 0, 3, -1, 3, -2, 3, -9, 3,
                Edges.LEAST, 3, Edges.LEAST + 1, 3, Edges.MOST, 3, Edges.MOST - 1, 3);
        x.lay(2);
        Edges.answers("LAST 10: at", x, StrikeWheels::at, 9, 2, 10, 1, 11, 3);
        x.lay(1);
        Edges.answers("LAST 11: at", x, StrikeWheels::at, 11, 0, 12, 3);
    }

    private static void causeOfEach() {
        Edges.sentence("Returns what causes the answer of at: with 1 the smallest wheel prime that divides the number, with 2 D of"
                + " its owner, with 3 LAST; 0 with 0.");
        StrikeWheels x = Check.of("sieve 4;stretch 210;striker 13;striker 11;");
        Edges.answers("cause", x, StrikeWheels::cause, 4, 2, 210, 2, 9, 3, 105, 3, 25, 5, 35, 5, 49, 7, 77, 7, 121, 11, 143, 11,
                169, 13, 2, 0, 7, 0, 11, 0, 211, 0, 212, 211, 1, 211, 0, 211, -1, 211, Edges.LEAST, 211, Edges.MOST, 211);
        StrikeWheels y = Check.of("sieve 4;stretch 210;striker 11;striker 13;");
        y.first(13);
        Edges.answers("13 first: cause", y, StrikeWheels::cause, 143, 11, 169, 13);
        StrikeWheels z = Check.of("sieve 0;stretch 40;striker 2;striker 3;");
        Edges.answers("no wheel: cause", z, StrikeWheels::cause, 6, 2, 9, 3, 4, 2, 42, 41);
        Edges.answers("nothing laid: cause", Check.of("sieve 1;striker 2;"), StrikeWheels::cause, 2, 1, 4, 1, 0, 1);
    }

    private static void struckNotLaid() {
        Edges.promise(12, "Returns how many strikers strike a laid number.", "Throws `NoSuchElementException` if it is not laid");
        StrikeWheels x = Check.of("sieve 0;stretch 35;striker 2;striker 3;striker 6;striker 4;");
        Edges.answers("struck", x, StrikeWheels::struck, 2, 0, 36, 4, 4, 1, 35, 0, 30, 2, 16, 2, 12, 2);
        for (int number : new int[] {1, 37, 0, -1, -2, -36, Edges.LEAST, Edges.MOST}) {
            Check.noSuchElement("struck(" + number + ")", () -> x.struck(number));
        }
        for (int number : new int[] {1, 63, 0, Edges.LEAST, Edges.MOST}) {
            Edges.throwsAndKeeps("struck(" + number + ")", Edges.NO_SUCH_ELEMENT, Edges::busyAndFed, y -> y.struck(number));
        }
        StrikeWheels none = Check.of("sieve 0;striker 2;");
        Check.noSuchElement("nothing laid: struck(2)", () -> none.struck(2));
        Check.noSuchElement("nothing laid: struck(1)", () -> none.struck(1));
        StrikeWheels full = Check.of("sieve 0;" + Edges.stretches(12, 400) + Edges.strikers(2, 30));
        Check.same("by many", full.struck(4800), 14);
        Check.same("the last one", full.struck(4801), 0);
        Check.noSuchElement("behind the last one", () -> full.struck(4802));
        full.wheel(1);
        Check.same("on no spoke", full.struck(4800), 0);
    }

    // ---- spokes

    private static void noSuchPlace() {
        Edges.sentence("Returns the number at a place (from 0) of the numbers 1 to the product of the wheel primes that no wheel"
                + " prime divides; NONE if there is no such place.");
        StrikeWheels x = new StrikeWheels();
        int[][] due = {{0, 1, 0, 1}, {1, 1, 0, 1}, {2, 2, 1, 5}, {3, 8, 7, 29}, {4, 48, 47, 209}};
        for (int[] row : due) {
            x.wheel(row[0]);
            Edges.answers("wheel " + row[0] + ": spokeAt", x, StrikeWheels::spokeAt, 0, 1, row[2], row[3], row[1], -1, -1, -1,
                    Edges.LEAST, -1, Edges.MOST, -1);
        }
        Edges.answers("wheel 4: spokeAt", x, StrikeWheels::spokeAt, 1, 11, 2, 13, 46, 199);
    }

    private static void spokeOfProduct() {
        Edges.sentence("Returns the place (see spokeAt) of the number that is left if a number is divided by the product of the"
                + " wheel primes (the product itself in place of 0)");
        StrikeWheels x = new StrikeWheels();
        x.wheel(0);
        Edges.answers("wheel 0: spokeOf", x, StrikeWheels::spokeOf, 1, 0, 2, 0, 3, 0, Edges.MOST, 0, Edges.MOST - 1, 0);
        x.wheel(1);
        Edges.answers("wheel 1: spokeOf", x, StrikeWheels::spokeOf, 1, 0, 2, -1, 3, 0, Edges.MOST, 0, Edges.MOST - 1, -1);
        x.wheel(2);
        Edges.answers("wheel 2: spokeOf", x, StrikeWheels::spokeOf, 1, 0, 5, 1, 6, -1, 7, 0, 11, 1, 12, -1, Edges.MOST, 0);
        x.wheel(4);
        Edges.answers("wheel 4: spokeOf", x, StrikeWheels::spokeOf, 209, 47, 210, -1, 211, 0, 419, 47, 420, -1, 221, 1);
    }

    private static void spokeOfNone() {
        Edges.sentence("NONE if a wheel prime divides that, or the number is less than 1");
        StrikeWheels x = new StrikeWheels();
        for (int wheel = 0; wheel <= 4; wheel++) {
            x.wheel(wheel);
            Edges.answers("wheel " + wheel + ": spokeOf", x, StrikeWheels::spokeOf, 1, 0, 0, -1, -1, -1, -209, -1,
                    Edges.LEAST, -1, Edges.LEAST + 1, -1);
        }
        Edges.answers("wheel 4: spokeOf", x, StrikeWheels::spokeOf, 2, -1, 3, -1, 5, -1, 7, -1, 11, 1, 49, -1, 121, 27,
                Edges.MOST, 28);
    }

    // ---- both, meet

    private static void bothLaid() {
        Edges.sentence("Returns how many laid numbers two strikers both strike.");
        StrikeWheels x = Check.of("sieve 0;stretch 34;striker 2;striker 3;striker 6;striker 5;");
        Check.same("LAST 35: 2 and 6", x.both(0, 2), 0);
        Check.same("LAST 35: 2 and 3", x.both(0, 1), 4);
        Check.same("LAST 35: 3 and 5", x.both(3, 1), 1);
        x.lay(1);
        Check.same("LAST 36: 2 and 6", x.both(0, 2), 1);
        Check.same("LAST 36: 2 and 3", x.both(1, 0), 5);
        Check.same("one with itself", x.both(2, 2), 1);
        x.trim(1);
        x.wheel(1);
        Check.same("on no spoke", x.both(0, 1), 0);
    }

    private static void meetNone() {
        Edges.sentence("Returns the smallest laid number that two strikers both strike; NONE if there is none.");
        StrikeWheels x = Check.of("sieve 0;stretch 34;striker 2;striker 3;striker 6;striker 5;");
        Check.same("LAST 35: 2 and 6", x.meet(0, 2), -1);
        Check.same("LAST 35: 6 and 2", x.meet(2, 0), -1);
        Check.same("LAST 35: 2 and 3", x.meet(0, 1), 12);
        Check.same("LAST 35: 5 and 3", x.meet(3, 1), 30);
        Check.same("LAST 35: 6 and 6", x.meet(2, 2), -1);
        x.lay(1);
        Check.same("LAST 36: 2 and 6", x.meet(0, 2), 36);
        Check.same("LAST 36: 6 and 3", x.meet(2, 1), 36);
        Check.same("LAST 36: 6 and 6", x.meet(2, 2), 36);
        x.wheel(1);
        Check.same("on no spoke", x.meet(0, 1), -1);
        Check.same("on a spoke", x.meet(3, 3), 25);
        Check.same("nothing laid", Check.of("sieve 0;striker 2;").meet(0, 0), -1);
    }

    private static void noSuchPair() {
        Edges.promise(15, "Throws `NoSuchElementException` if there is no such striker");
        Edges.numbered("both(.., 0)", 4, Edges::busyAndFed, (x, number) -> x.both(number, 0));
        Edges.numbered("both(3, ..)", 4, Edges::busyAndFed, (x, number) -> x.both(3, number));
        Edges.numbered("none: both(.., ..)", 0, Edges::withoutAny, (x, number) -> x.both(number, number));
        Edges.promise(16, "Throws `NoSuchElementException` if there is no such striker");
        Edges.numbered("meet(.., 0)", 4, Edges::busyAndFed, (x, number) -> x.meet(number, 0));
        Edges.numbered("meet(3, ..)", 4, Edges::busyAndFed, (x, number) -> x.meet(3, number));
        Edges.numbered("none: meet(.., ..)", 0, Edges::withoutAny, (x, number) -> x.meet(number, number));
    }

    // ---- format

    private static void format(StrikeWheels x, int stretch, String due) {
        int length = x.format(stretch);
        Check.same("length of " + due, length, due.length());
        Check.sameText("text", Check.formatted(x, length), due);
        Check.same("behind the text", x.formattedByte(length), -1);
    }

    private static void formatRuns() {
        Edges.promise(56, "Formats a stretch as text: for each run of marks (of numbers on spokes that follow one another in it)"
                + " that is not empty, its marks with '.' between two; with ' ' between two runs; a struck number on a spoke ends a"
                + " run.", "Returns the number of bytes of the text.");
        format(Check.of("sieve 1;stretch 1;"), 0, "2");
        format(Check.of("sieve 1;stretch 2;stretch 1;"), 1, "");
        format(Check.of("sieve 0;stretch 2;stretch 1;striker 2;"), 1, "");
        format(Check.of("sieve 0;stretch 5;striker 2;"), 0, "2.3 5");
        format(Check.of("sieve 1;stretch 10;striker 3;"), 0, "2.3.5.7 11");
        format(Check.of("sieve 0;stretch 6;stretch 5;striker 3;striker 4;striker 2;"), 1, "11");
        format(Check.of("sieve 0;stretch 2;stretch 4;striker 2;"), 1, "5 7");
        format(Check.of("sieve 0;stretch 7;stretch 5;stretch 2;striker 3;striker 2;"), 1, "11 13");
        format(Check.of("sieve 0;stretch 7;stretch 3;"), 1, "9.10.11");
        format(Check.of("sieve 0;stretch 97;stretch 3;"), 1, "99.100.101");
        format(Check.of("sieve 0;stretch 400;stretch 400;stretch 197;stretch 3;"), 3, "999.1000.1001");
        StrikeWheels longest = Check.of("sieve 0;" + Edges.stretches(12, 400));
        Check.same("the longest text", longest.format(11), 1999);
        int[] bytes = {0, '4', 4, '.', 1994, '.', 1995, '4', 1998, '1', 1999, -1};
        Edges.answers("formattedByte", longest, StrikeWheels::formattedByte, bytes);
        Check.same("of the first stretch", longest.format(0), 8 * 2 + 90 * 3 + 302 * 4 - 1);
    }

    private static void formatNoSuchStretch() {
        Edges.promise(56, "Throws `NoSuchElementException` if there is no such stretch");
        Edges.numbered("format", 3, Edges::busyAndFed, StrikeWheels::format);
        Edges.numbered("none: format", 0, Edges::withoutAny, StrikeWheels::format);
        Edges.numbered("12: format", 12, Edges::withAllStretches, StrikeWheels::format);
    }

    private static void formattedByteNone() {
        Edges.sentence("NONE if index is out of range or there was no such call");
        StrikeWheels x = new StrikeWheels();
        Edges.answers("no such call: formattedByte", x, StrikeWheels::formattedByte, 0, -1, 1, -1, -1, -1,
                Edges.LEAST, -1, Edges.MOST, -1);
        Check.noSuchElement("a call that throws", () -> x.format(1));
        Check.same("is no such call", x.formattedByte(0), -1);
        x.format(0);
        Edges.answers("formattedByte", x, StrikeWheels::formattedByte, 0, '2', 1, '.', 27, '9', 28, -1, -1, -1,
                Edges.LEAST, -1, Edges.MOST, -1);
        x.lay(2);
        x.trim(1);
        x.lay(1);
        x.add(31);
        Check.same("an empty text", x.format(2), 0);
        Check.same("an empty text: formattedByte(0)", x.formattedByte(0), -1);
    }

    private static void formattedByteAsItWas() {
        Edges.sentence("Returns the byte at index of the text of the most recent successful call of format, as it was then"
                + " (also after load, undo and restoreSnapshot)");
        StrikeWheels x = Check.of("sieve 1;stretch 29;striker 3;striker 5;");
        x.saveSnapshot();
        x.drop();
        x.lay(4);
        Check.same("format", x.format(0), 5);
        x.undo();
        Check.sameText("after undo", Check.formatted(x, 5), "2.3.5");
        x.restoreSnapshot();
        Check.sameText("after restoreSnapshot", Check.formatted(x, 5), "2.3.5");
        x.wheel(0);
        x.lift(5);
        Check.sameText("after operations", Check.formatted(x, 5), "2.3.5");
        Check.noSuchElement("format that throws", () -> x.format(7));
        Check.sameText("after a format that throws", Check.formatted(x, 5), "2.3.5");
        Check.load(x, "sieve 0;stretch 9;");
        Check.sameText("after load", Check.formatted(x, 5), "2.3.5");
        Check.load(x, "oh");
        Check.sameText("after an error", Check.formatted(x, 5), "2.3.5");
        Check.same("not longer than it was", x.formattedByte(5), -1);
        Check.same("the most recent one", x.format(0), 18);
        Check.sameText("the most recent text", Check.formatted(x, 18), "2.3.4.5.6.7.8.9.10");
    }

    private static void tellingChangesNothing() {
        Edges.sentence("says: ---- what there is.");
        Edges.tellsAndKeeps("size", Edges::busyAndFed, x -> x.size(4) + x.size(8) + x.size(9));
        Edges.tellsAndKeeps("account", Edges::busyAndFed, x -> x.account(0));
        Edges.tellsAndKeeps("stretch", Edges::busyAndFed, x -> x.stretch(1, 4));
        Edges.tellsAndKeeps("striker", Edges::busyAndFed, x -> x.striker(1, 3));
        Edges.tellsAndKeeps("find", Edges::busyAndFed, x -> x.find(9));
        Edges.tellsAndKeeps("at", Edges::busyAndFed, x -> x.at(9) + x.cause(9) + x.struck(9));
        Edges.tellsAndKeeps("spokes", Edges::busyAndFed, x -> x.spokeAt(0) + x.spokeOf(7));
        Edges.tellsAndKeeps("both", Edges::busyAndFed, x -> x.both(0, 1) + x.meet(0, 1));
        Edges.tellsAndKeeps("errorPosition", Edges::busyAndFed, x -> x.errorPosition() + x.undoCount() + x.formattedByte(0));
    }
}
