/** For each promise of the document its ordinary answers, its edges and its wrong inputs. */
public final class PromiseTest {
    private static final int LEAST = Integer.MIN_VALUE;
    private static final int MOST = Integer.MAX_VALUE;

    private PromiseTest() {
    }

    public static void main(String[] args) {
        newObject1();
        feed2();
        load3();
        errorPosition4();
        size5();
        account6();
        stretch7();
        striker8();
        find9();
        atAndCause10To11();
        struck12();
        spokes13To14();
        common15To16();
        marks17To19();
        divisors20To21();
        longest22();
        chain23();
        turn24();
        next25();
        gaps26To29();
        sums30To31();
        thickest32();
        right33To36();
        takesAndGives37To38();
        best39();
        marksNext40();
        leastWheel41();
        measures42To44();
        lay45();
        drop46();
        trim47();
        swap48();
        add49();
        lift50();
        first51();
        wheel52();
        fill53();
        tidy54();
        play55();
        format56To57();
        undo58To59();
        snapshot60To61();
        Check.close("PromiseTest");
    }

    private static String stretches(int many, int room) {
        StringBuilder text = new StringBuilder();
        for (int index = 0; index < many; index++) {
            text.append("stretch ").append(room).append(";");
        }
        return text.toString();
    }

    private static String strikers(int from, int many) {
        StringBuilder text = new StringBuilder();
        for (int d = from; d < from + many; d++) {
            text.append("striker ").append(d).append(";");
        }
        return text.toString();
    }

    private static void newObject1() {
        StrikeWheels x = new StrikeWheels();
        int[] sizes = {1, 1, 30, 1, 11, 15, 2, 1, 1, 0};
        for (int what = 0; what < sizes.length; what++) {
            Check.same("new: size(" + what + ")", x.size(what), sizes[what]);
        }
        for (int what = 0; what <= 4; what++) {
            Check.same("new: account(" + what + ")", x.account(what), 0);
        }
        Check.same("new: striker(0, 0)", x.striker(0, 0), 3);
        Check.same("new: stretch(0, 1)", x.stretch(0, 1), 30);
        Check.same("new: errorPosition", x.errorPosition(), -1);
        Check.same("new: undoCount", x.undoCount(), 0);
        Check.same("new: formattedByte(0)", x.formattedByte(0), -1);
        Check.isTrue("new: no snapshot", !x.restoreSnapshot());
        Check.illegalArgument("new: empty buffer", () -> x.load(1));
        Check.same("NONE", StrikeWheels.NONE, -1);
    }

    private static void feed2() {
        StrikeWheels x = new StrikeWheels();
        for (int bytes = 20; bytes <= 600; bytes += 20) {
            Check.same("feed " + bytes, x.feed(0, 0, 0, 0, 0), bytes);
        }
        Check.same("feed beyond 600", x.feed(1, 1, 1, 1, 1), -1);
        Check.illegalArgument("nothing was appended", () -> x.play(601));
        Check.same("load of 600 bytes that are 0", x.load(600), -11);
        Check.same("the first one is invalid", x.errorPosition(), 0);
        Check.same("feed again", x.feed(0x73696576, 0x65303b20, 0x20202020, 0x20202020, 0x20202020), 20);
        Check.same("the most significant byte first", x.load(20), 1);
        Check.same("a byte above 127", x.feed(0x20ffffff, LEAST, -1, -1, -1), 20);
        Check.same("a byte above 127 is invalid", x.load(20), -11);
        Check.same("a byte above 127 has its place", x.errorPosition(), 1);
    }

    private static void load3() {
        StrikeWheels x = Check.of("sieve 2;stretch 20;stretch 30;striker 5;striker 7;");
        Check.same("two stretches", x.size(2), 51);
        Check.same("row", x.find(7), 1);
        Check.same("no blanks, leading zeros", Check.load(x, "sieve0004;stretch000400;striker002;striker0120;"), 401);
        Check.same("wheel 4", x.size(0), 4);
        Check.same("blanks", Check.load(x, "\n sieve\n\n0 ;\nstretch 1 ; "), 2);
        Check.same("the buffer is empty", Check.load(x, ""), -11);
        Check.same("12 stretches of 400", Check.load(x, "sieve 0;" + stretches(12, 400)), 4801);
        Check.same("13 stretches", Check.load(x, "sieve 0;" + stretches(13, 1)), -14);
        Check.same("at the 13th keyword", x.errorPosition(), 8 + 12 * 10);
        Check.same("30 strikers", Check.load(x, "sieve 0;" + strikers(10, 30)), 1);
        Check.same("31 strikers", Check.load(x, "sieve 0;" + strikers(10, 31)), -14);
        Check.same("at the 31st keyword", x.errorPosition(), 8 + 30 * 11);
        Check.same("all strikers stand", x.size(3), 30);
        loadErrors(x);
        loadKeepsOnError();
        textEndsInAToken();
        StrikeWheels y = new StrikeWheels();
        Check.illegalArgument("load(-1)", () -> y.load(-1));
        Check.illegalArgument("load of more than there is", () -> y.load(1));
        y.feed(0x73696576, 0x65303b20, 0x20202020, 0x20202020, 0x20202020);
        Check.illegalArgument("load of one more", () -> y.load(21));
        Check.same("a load that throws leaves the buffer", y.feed(0, 0, 0, 0, 0), 40);
        Check.same("the first bytes only", y.load(8), 1);
        Check.same("all of the buffer is gone", y.feed(0, 0, 0, 0, 0), 20);
    }

    private static void error(StrikeWheels x, String text, int code, int position) {
        Check.same("load of " + text, Check.load(x, text), -10 - code);
        Check.same("error position of " + text, x.errorPosition(), position);
    }

    private static void loadErrors(StrikeWheels x) {
        error(x, "", 1, 0);
        error(x, "  \n", 1, 3);
        error(x, "sieve", 1, 5);
        error(x, "sieve 1", 1, 7);
        error(x, "sieve 1 ", 1, 8);
        error(x, "sievex 1;", 1, 0);
        error(x, "siev 1;", 1, 0);
        error(x, "sievez 1;", 1, 0);
        error(x, "Sieve 1;", 1, 0);
        error(x, "sieve 5;", 2, 6);
        error(x, "sieve ;", 1, 6);
        error(x, "sieve -1;", 1, 6);
        error(x, "sieve 99999999999999999999999;", 2, 6);
        error(x, "sieve 4294967297;", 2, 6);
        error(x, "sieve 1;;", 1, 8);
        error(x, "sieve 1;stretch 0;", 2, 16);
        error(x, "sieve 1;stretch 401;", 2, 16);
        error(x, "sieve 1;stretch x;", 1, 16);
        error(x, "sieve 1;stretch 3", 1, 17);
        error(x, "sieve 1;stretch 3 striker 5;", 1, 18);
        error(x, "sieve 1;striker 1;", 2, 16);
        error(x, "sieve 1;striker 121;", 2, 16);
        error(x, "sieve 1;striker 5;stretch 5;", 1, 18);
        error(x, "sieve 1;striker 5;striker 0005;", 3, 26);
        error(x, "sieve 1;striker 5;striker 6;striker 5", 3, 36);
        error(x, "sieve 1;strikerh 5;", 1, 8);
        error(x, "sieve 1;sieve 1;", 1, 8);
        error(x, "sieve 1;\t", 1, 8);
        error(x, "sieve 1;stretch 4;striker 5,", 1, 27);
        error(x, "sieve 0;" + stretches(12, 1) + "lay", 1, 128);
        error(x, "sieve 0;" + strikers(10, 30) + "stretch 1;", 1, 338);
    }

    private static void textEndsInAToken() {
        StrikeWheels x = new StrikeWheels();
        Check.feed(x, "sievex");
        Check.same("a word goes on behind the text", x.load(5), -11);
        Check.same("the word is right, the end is not", x.errorPosition(), 5);
        Check.feed(x, "sieve 45");
        Check.same("a number goes on behind the text", x.load(7), -11);
        Check.same("the number is right, the end is not", x.errorPosition(), 7);
    }

    private static void loadKeepsOnError() {
        StrikeWheels x = new StrikeWheels();
        x.add(5);
        x.add(5);
        x.saveSnapshot();
        x.lay(4);
        Check.same("error", Check.load(x, "sieve 0;stretch 9;oh"), -11);
        Check.same("LAST stays", x.size(2), 34);
        Check.same("WHEEL stays", x.size(0), 1);
        Check.same("history stays", x.undoCount(), 2);
        Check.same("texts with errors are no refusals", x.account(1), 1);
        Check.isTrue("snapshot stays", x.restoreSnapshot());
        x.tidy();
        Check.same("load", Check.load(x, "sieve 0;stretch 9;"), 10);
        Check.same("history is discarded", x.undoCount(), 0);
        Check.isTrue("snapshot is discarded", !x.restoreSnapshot());
        Check.same("accounts stay: done", x.account(0), 3);
        Check.same("accounts stay: refused", x.account(1), 1);
        Check.same("accounts stay: laid", x.account(3), 1);
        Check.same("accounts stay: added", x.account(4), 1);
        Check.same("strikers are gone", x.size(3), 0);
    }

    private static void errorPosition4() {
        StrikeWheels x = new StrikeWheels();
        error(x, "sieve 9;", 2, 6);
        Check.illegalArgument("load that throws", () -> x.load(-1));
        Check.same("a call that throws reads nothing", x.errorPosition(), 6);
        x.lay(3);
        x.undo();
        x.saveSnapshot();
        x.restoreSnapshot();
        Check.same("no other call changes it", x.errorPosition(), 6);
        Check.same("play", Check.play(x, "drop;"), 1);
        Check.same("none after a script without error", x.errorPosition(), -1);
        Check.same("play with an error", Check.play(x, "drop;drop 3;"), -11);
        Check.same("of play", x.errorPosition(), 10);
        Check.same("load", Check.load(x, "sieve 1;"), 1);
        Check.same("none after a text without error", x.errorPosition(), -1);
    }

    private static void sizes(String text, int... due) {
        StrikeWheels x = Check.of(text);
        for (int what = 0; what < due.length; what++) {
            Check.same("size(" + what + ") of " + text, x.size(what), due[what]);
        }
    }

    private static void size5() {
        sizes("sieve 0;", 0, 0, 1, 0, 0, 0, 1, 1, 0, 0);
        sizes("sieve 0;stretch 3;striker 2;", 0, 1, 4, 1, 2, 3, 1, 1, 0, 0);
        sizes("sieve 2;stretch 20;stretch 30;striker 5;striker 7;", 2, 2, 51, 2, 15, 18, 6, 2, 0, 0);
        sizes("sieve 3;stretch 29;striker 2;striker 25;", 3, 1, 30, 2, 10, 10, 30, 8, 0, 2);
        sizes("sieve 4;stretch 120;striker 11;striker 33;", 4, 1, 121, 2, 30, 31, 210, 48, 0, 1);
        sizes("sieve 0;stretch 48;", 0, 1, 49, 0, 48, 48, 1, 1, 6, 0);
        sizes("sieve 0;stretch 47;striker 4;", 0, 1, 48, 1, 38, 47, 1, 1, 4, 0);
        StrikeWheels x = new StrikeWheels();
        for (int what : new int[] {-1, 10, LEAST, MOST}) {
            Check.illegalArgument("size(" + what + ")", () -> x.size(what));
        }
    }

    private static void account6() {
        StrikeWheels x = new StrikeWheels();
        x.lay(5);
        x.add(5);
        x.add(5);
        x.lift(9);
        x.undo();
        Check.illegalArgument("add(1)", () -> x.add(1));
        x.undo();
        x.undo();
        int[] due = {2, 2, 2, 1, 1};
        for (int what = 0; what < due.length; what++) {
            Check.same("account(" + what + ")", x.account(what), due[what]);
        }
        Check.same("script", Check.play(x, "lay 3;fill 3;add 7;lay 1;add 7;lay 9;"), 4);
        int[] later = {6, 3, 2, 3, 3};
        for (int what = 0; what < later.length; what++) {
            Check.same("behind a script: account(" + what + ")", x.account(what), later[what]);
        }
        x.undo();
        Check.same("a play is one operation", x.account(2), 3);
        Check.same("accounts stay", x.account(0), 6);
        for (int what : new int[] {-1, 5, LEAST, MOST}) {
            Check.illegalArgument("account(" + what + ")", () -> x.account(what));
        }
    }

    private static void stretch7() {
        StrikeWheels x = Check.of("sieve 2;stretch 20;stretch 2;stretch 29;striker 5;striker 7;");
        int[][] due = {{2, 21, 8, 8, 2, 19}, {22, 23, 1, 1, 23, 23}, {24, 52, 6, 9, 29, 47}};
        for (int stretch = 0; stretch < due.length; stretch++) {
            for (int what = 0; what < 6; what++) {
                Check.same("stretch(" + stretch + ", " + what + ")", x.stretch(stretch, what), due[stretch][what]);
            }
        }
        StrikeWheels y = Check.of("sieve 1;stretch 2;stretch 1;stretch 4;stretch 1;striker 3;");
        Check.same("a stretch without marks: marks", y.stretch(1, 2), 0);
        Check.same("a stretch without marks: first", y.stretch(1, 4), -1);
        Check.same("a stretch without marks: last", y.stretch(1, 5), -1);
        Check.same("a stretch without marks, but with spokes: first", y.stretch(3, 4), -1);
        Check.same("a stretch without marks, but with spokes: last", y.stretch(3, 5), -1);
        Check.same("a stretch without marks, but with spokes", y.stretch(3, 3), 1);
        for (int stretch : new int[] {-1, 4, LEAST, MOST}) {
            Check.noSuchElement("stretch(" + stretch + ", 0)", () -> y.stretch(stretch, 0));
            Check.noSuchElement("stretch is checked first", () -> y.stretch(stretch, 9));
        }
        for (int what : new int[] {-1, 6, LEAST, MOST}) {
            Check.illegalArgument("stretch(0, " + what + ")", () -> y.stretch(0, what));
        }
    }

    private static void striker8() {
        StrikeWheels x = Check.of("sieve 1;stretch 104;striker 9;striker 3;striker 2;striker 15;striker 120;striker 27;");
        int[][] due = {{9, 2, 2, 117, 0, 81}, {3, 17, 15, 111, 1, 9}, {2, 0, 0, -1, 1, -1},
            {15, 0, 0, 225, 0, -1}, {120, 0, 0, -1, 0, -1}, {27, 0, 0, 729, 0, -1}};
        for (int striker = 0; striker < due.length; striker++) {
            for (int what = 0; what < 6; what++) {
                Check.same("striker(" + striker + ", " + what + ")", x.striker(striker, what), due[striker][what]);
            }
        }
        StrikeWheels y = Check.of("sieve 4;striker 113;striker 11;striker 119;");
        Check.same("its square", y.striker(0, 3), 12769);
        Check.same("119 is 7 times 17", y.striker(2, 3), -1);
        Check.same("119 is no prime", y.striker(2, 4), 0);
        y.wheel(0);
        Check.same("without a wheel", y.striker(2, 3), 14161);
        for (int striker : new int[] {-1, 3, LEAST, MOST}) {
            Check.noSuchElement("striker(" + striker + ", 0)", () -> y.striker(striker, 0));
            Check.noSuchElement("striker is checked first", () -> y.striker(striker, -1));
        }
        for (int what : new int[] {-1, 6, LEAST, MOST}) {
            Check.illegalArgument("striker(0, " + what + ")", () -> y.striker(0, what));
        }
    }

    private static void find9() {
        StrikeWheels x = Check.of("sieve 1;striker 9;striker 3;");
        Check.same("find(9)", x.find(9), 0);
        Check.same("find(3)", x.find(3), 1);
        for (int d : new int[] {0, 2, -1, LEAST, MOST}) {
            Check.same("find(" + d + ")", x.find(d), -1);
        }
        x.lift(3);
        Check.same("find of a lifted one", x.find(3), -1);
    }

    private static void atAndCause10To11() {
        StrikeWheels x = Check.of("sieve 3;stretch 148;striker 11;striker 7;");
        int[][] due = {{2, 0, 0}, {3, 0, 0}, {5, 0, 0}, {7, 0, 0}, {4, 1, 2}, {6, 1, 2}, {9, 1, 3}, {15, 1, 3}, {25, 1, 5},
            {30, 1, 2}, {49, 2, 7}, {77, 2, 7}, {121, 2, 11}, {143, 2, 11}, {119, 2, 7}, {149, 0, 0}, {150, 3, 149},
            {1, 3, 149}, {0, 3, 149}, {-7, 3, 149}, {LEAST, 3, 149}, {MOST, 3, 149}, {35, 1, 5}, {105, 1, 3}};
        for (int[] row : due) {
            Check.same("at(" + row[0] + ")", x.at(row[0]), row[1]);
            Check.same("cause(" + row[0] + ")", x.cause(row[0]), row[2]);
        }
        StrikeWheels y = Check.of("sieve 4;stretch 400;striker 6;");
        Check.same("cause(49) of wheel 4", y.cause(49), 7);
        Check.same("cause(7) of wheel 4", y.cause(7), 0);
        StrikeWheels z = Check.of("sieve 0;stretch 40;striker 6;striker 2;");
        Check.same("the first of the row owns", z.cause(36), 6);
        Check.same("6 strikes from 36 on", z.cause(30), 2);
        StrikeWheels none = Check.of("sieve 0;");
        Check.same("nothing laid", none.at(2), 3);
        Check.same("LAST is 1", none.cause(2), 1);
    }

    private static void struck12() {
        StrikeWheels x = Check.of("sieve 0;stretch 40;striker 6;striker 2;striker 3;striker 7;");
        int[][] due = {{36, 3}, {30, 2}, {4, 1}, {9, 1}, {2, 0}, {7, 0}, {41, 0}};
        for (int[] row : due) {
            Check.same("struck(" + row[0] + ")", x.struck(row[0]), row[1]);
        }
        for (int number : new int[] {1, 42, 0, LEAST, MOST}) {
            Check.noSuchElement("struck(" + number + ")", () -> x.struck(number));
        }
        x.wheel(1);
        Check.same("on no spoke", x.struck(36), 0);
        Check.same("on a spoke", x.struck(27), 1);
    }

    private static void spokes13To14() {
        int[][] spokes = {{1}, {1}, {1, 5}, {1, 7, 11, 13, 17, 19, 23, 29}};
        StrikeWheels x = new StrikeWheels();
        for (int wheel = 0; wheel < 4; wheel++) {
            x.wheel(wheel);
            for (int place = 0; place < spokes[wheel].length; place++) {
                Check.same("wheel " + wheel + ": spokeAt(" + place + ")", x.spokeAt(place), spokes[wheel][place]);
                Check.same("wheel " + wheel + ": spokeOf", x.spokeOf(spokes[wheel][place]), place);
                Check.same("wheel " + wheel + ": spokeOf a turn later",
                        x.spokeOf(spokes[wheel][place] + x.size(6)), place);
            }
            Check.same("wheel " + wheel + ": one place more", x.spokeAt(spokes[wheel].length), -1);
            Check.same("wheel " + wheel + ": a place less", x.spokeAt(-1), -1);
        }
        x.wheel(4);
        Check.same("spokeAt(47)", x.spokeAt(47), 209);
        Check.same("spokeAt(48)", x.spokeAt(48), -1);
        Check.same("spokeAt(1)", x.spokeAt(1), 11);
        Check.same("spokeAt(MOST)", x.spokeAt(MOST), -1);
        Check.same("spokeAt(LEAST)", x.spokeAt(LEAST), -1);
        Check.same("spokeOf(2)", x.spokeOf(2), -1);
        Check.same("spokeOf(7)", x.spokeOf(7), -1);
        Check.same("spokeOf(420)", x.spokeOf(420), -1);
        Check.same("spokeOf(419)", x.spokeOf(419), 47);
        Check.same("spokeOf(0)", x.spokeOf(0), -1);
        Check.same("spokeOf(-209)", x.spokeOf(-209), -1);
        Check.same("spokeOf(LEAST)", x.spokeOf(LEAST), -1);
        Check.same("spokeOf(MOST)", x.spokeOf(MOST), 28);
        x.wheel(0);
        Check.same("without a wheel", x.spokeOf(MOST), 0);
        Check.same("less than 1 without a wheel", x.spokeOf(0), -1);
    }

    private static void common15To16() {
        StrikeWheels x = Check.of("sieve 0;stretch 59;striker 2;striker 3;striker 6;striker 7;striker 11;");
        Check.same("both(0, 1)", x.both(0, 1), 9);
        Check.same("meet(0, 1)", x.meet(0, 1), 12);
        Check.same("both(1, 0)", x.both(1, 0), 9);
        Check.same("both(0, 2)", x.both(0, 2), 5);
        Check.same("meet(2, 0)", x.meet(2, 0), 36);
        Check.same("both(3, 0)", x.both(3, 0), 1);
        Check.same("meet(0, 3)", x.meet(0, 3), 56);
        Check.same("both(1, 3)", x.both(1, 3), 0);
        Check.same("meet(1, 3)", x.meet(1, 3), -1);
        Check.same("meet(4, 4)", x.meet(4, 4), -1);
        Check.same("both(3, 3)", x.both(3, 3), 2);
        Check.same("meet(3, 3)", x.meet(3, 3), 49);
        for (int striker : new int[] {-1, 5, LEAST, MOST}) {
            Check.noSuchElement("both(" + striker + ", 0)", () -> x.both(striker, 0));
            Check.noSuchElement("both(0, " + striker + ")", () -> x.both(0, striker));
            Check.noSuchElement("meet(" + striker + ", 0)", () -> x.meet(striker, 0));
            Check.noSuchElement("meet(0, " + striker + ")", () -> x.meet(0, striker));
        }
        x.wheel(1);
        Check.same("on no spoke: both", x.both(0, 1), 0);
        Check.same("on no spoke: meet", x.meet(0, 1), -1);
        Check.same("on spokes: both", x.both(3, 3), 1);
    }

    private static void marks17To19() {
        StrikeWheels x = new StrikeWheels();
        int[] marks = {2, 3, 5, 7, 11, 13, 17, 19, 23, 25, 29};
        for (int place = 0; place < marks.length; place++) {
            Check.same("mark(" + place + ")", x.mark(place), marks[place]);
            Check.same("upTo(" + marks[place] + ")", x.upTo(marks[place]), place + 1);
            Check.same("upTo one less", x.upTo(marks[place] - 1), place);
        }
        for (int place : new int[] {-1, 11, LEAST, MOST}) {
            Check.same("mark(" + place + ")", x.mark(place), -1);
        }
        int[][] counts = {{30, 11}, {31, 11}, {MOST, 11}, {1, 0}, {0, 0}, {LEAST, 0}};
        for (int[] row : counts) {
            Check.same("upTo(" + row[0] + ")", x.upTo(row[0]), row[1]);
        }
        int[][] due = {{5, 13, 4}, {6, 12, 2}, {11, 11, 1}, {12, 12, 0}, {13, 12, 0}, {LEAST, MOST, 11}, {MOST, LEAST, 0},
            {LEAST, LEAST, 0}, {MOST, MOST, 0}, {LEAST, 2, 1}, {29, MOST, 1}, {30, MOST, 0}, {-5, 1, 0}};
        for (int[] row : due) {
            Check.same("between(" + row[0] + ", " + row[1] + ")", x.between(row[0], row[1]), row[2]);
        }
    }

    private static void divisors20To21() {
        StrikeWheels x = new StrikeWheels();
        int[][] due = {{2, 2, 1}, {30, 2, 3}, {25, 5, 2}, {49, 7, 1}, {31, -1, 0}, {961, -1, 0}, {1, -1, 0}, {0, -1, 0},
            {-2, -1, 0}, {LEAST, -1, 0}, {MOST, -1, 0}, {MOST - 1, 2, 4}, {29, 29, 1}, {323, 17, 2}, {9, 3, 1}, {27, 3, 1}};
        for (int[] row : due) {
            Check.same("divisor(" + row[0] + ")", x.divisor(row[0]), row[1]);
            Check.same("divisors(" + row[0] + ")", x.divisors(row[0]), row[2]);
        }
        StrikeWheels none = Check.of("sieve 0;");
        Check.same("divisor without marks", none.divisor(2), -1);
        Check.same("divisors without marks", none.divisors(2), 0);
    }

    private static void longest22() {
        Check.same("longest of a new one", new StrikeWheels().longest(), 4);
        Check.same("longest without stretches", Check.of("sieve 3;").longest(), 0);
        Check.same("longest without strikers", Check.of("sieve 0;stretch 7;stretch 8;").longest(), 15);
        Check.same("the last run", Check.of("sieve 2;stretch 50;striker 5;").longest(), 9);
        Check.same("over stretches", Check.of("sieve 1;stretch 3;stretch 3;striker 3;").longest(), 4);
    }

    private static void chain23() {
        StrikeWheels x = Check.of("sieve 1;stretch 59;striker 3;striker 5;striker 7;");
        int[][] due = {{2, 5}, {5, 4}, {11, 3}, {23, 2}, {47, 1}, {3, 2}, {7, 1}, {59, 1}, {4, 0}, {9, 0}, {1, 0}, {0, 0},
            {-1, 0}, {61, 0}, {LEAST, 0}, {MOST, 0}};
        for (int[] row : due) {
            Check.same("chain(" + row[0] + ")", x.chain(row[0]), row[1]);
        }
        Check.same("no end but LAST", Check.of("sieve 0;" + stretches(12, 400)).chain(2), 11);
    }

    private static void turn24() {
        StrikeWheels x = new StrikeWheels();
        x.wheel(2);
        int[] due = {3, 2, 2, 2, 2, 0};
        for (int turn = 0; turn < due.length; turn++) {
            Check.same("turn(" + turn + ")", x.turn(turn), due[turn]);
        }
        Check.same("turn(5000)", x.turn(5000), 0);
        x.wheel(0);
        Check.same("without a wheel: 1", x.turn(0), 0);
        Check.same("without a wheel: 2", x.turn(1), 1);
        Check.same("without a wheel: 9", x.turn(8), 0);
        Check.same("without a wheel: 30", x.turn(29), 0);
        Check.same("without a wheel: 29", x.turn(28), 1);
        for (int turn : new int[] {-1, 5001, LEAST, MOST}) {
            Check.illegalArgument("turn(" + turn + ")", () -> x.turn(turn));
        }
    }

    private static void next25() {
        StrikeWheels x = new StrikeWheels();
        int[][] due = {{11, 13, 7}, {12, 13, 11}, {1, 2, -1}, {2, 3, -1}, {3, 5, 2}, {29, -1, 25}, {30, -1, 29},
            {31, -1, 29}, {MOST, -1, 29}, {LEAST, 2, -1}, {0, 2, -1}};
        for (int[] row : due) {
            Check.same("next(" + row[0] + ", false)", x.next(row[0], false), row[1]);
            Check.same("next(" + row[0] + ", true)", x.next(row[0], true), row[2]);
        }
        StrikeWheels none = Check.of("sieve 0;");
        Check.same("next without marks", none.next(1, false), -1);
        Check.same("next below without marks", none.next(9, true), -1);
    }

    private static void gaps26To29() {
        StrikeWheels x = new StrikeWheels();
        int[][] gaps = {{1, 1}, {2, 5}, {3, 0}, {4, 4}, {400, 0}};
        for (int[] row : gaps) {
            Check.same("gaps(" + row[0] + ")", x.gaps(row[0]), row[1]);
        }
        int[][] twins = {{1, 1}, {2, 5}, {6, 7}, {22, 2}, {27, 1}, {28, 0}, {400, 0}};
        for (int[] row : twins) {
            Check.same("twins(" + row[0] + ")", x.twins(row[0]), row[1]);
        }
        Check.same("widest", x.widest(), 4);
        Check.same("widestAt", x.widestAt(), 7);
        for (int gap : new int[] {0, 401, -1, LEAST, MOST}) {
            Check.illegalArgument("gaps(" + gap + ")", () -> x.gaps(gap));
            Check.illegalArgument("twins(" + gap + ")", () -> x.twins(gap));
        }
        StrikeWheels y = Check.of("sieve 4;stretch 119;striker 11;");
        Check.same("widest of primes", y.widest(), 8);
        Check.same("widestAt of primes", y.widestAt(), 89);
        StrikeWheels one = Check.of("sieve 0;stretch 1;");
        Check.same("widest of one mark", one.widest(), 0);
        Check.same("widestAt of one mark", one.widestAt(), -1);
        one.lay(1);
        Check.same("widest of two marks", one.widest(), 1);
        Check.same("widestAt of two marks", one.widestAt(), 2);
    }

    private static void sums30To31() {
        StrikeWheels x = new StrikeWheels();
        int[][] due = {{4, 1, 2}, {5, 1, 2}, {6, 1, 3}, {10, 2, 3}, {9, 1, 2}, {3, 0, -1}, {11, 0, -1}, {30, 4, 5},
            {58, 1, 29}, {59, 0, -1}, {0, 0, -1}, {-4, 0, -1}, {LEAST, 0, -1}, {MOST, 0, -1}, {54, 1, 25}};
        for (int[] row : due) {
            Check.same("sums(" + row[0] + ")", x.sums(row[0]), row[1]);
            Check.same("leastOf(" + row[0] + ")", x.leastOf(row[0]), row[2]);
        }
    }

    private static void thickest32() {
        StrikeWheels x = new StrikeWheels();
        int[][] due = {{1, 1}, {2, 2}, {3, 2}, {4, 3}, {5, 3}, {6, 4}, {10, 5}, {28, 11}, {29, 11}, {30, 11}, {400, 11}};
        for (int[] row : due) {
            Check.same("thickest(" + row[0] + ")", x.thickest(row[0]), row[1]);
        }
        for (int many : new int[] {0, 401, -1, LEAST, MOST}) {
            Check.illegalArgument("thickest(" + many + ")", () -> x.thickest(many));
        }
        Check.same("thickest without stretches", Check.of("sieve 0;").thickest(3), 0);
        Check.same("over stretches", Check.of("sieve 0;stretch 2;stretch 2;").thickest(4), 4);
        Check.same("not at the front", Check.of("sieve 0;stretch 7;striker 2;striker 4;").thickest(2), 2);
    }

    private static void right33To36() {
        StrikeWheels x = Check.of("sieve 0;stretch 48;striker 2;striker 7;");
        Check.same("wrong", x.wrong(), 9);
        Check.same("firstWrong", x.firstWrong(), 9);
        Check.same("missing", x.missing(), 3);
        Check.same("gap with missing ones", x.gap(), 0);
        x.add(3);
        Check.same("wrong: 25, 35", x.wrong(), 2);
        Check.same("firstWrong: 25", x.firstWrong(), 25);
        Check.same("missing: 5", x.missing(), 5);
        x.fill(1);
        Check.same("nothing wrong", x.wrong(), 0);
        Check.same("nothing first wrong", x.firstWrong(), -1);
        Check.same("nothing missing", x.missing(), -1);
        Check.same("gap with none missing", x.gap(), 0);
        x.lift(2);
        Check.same("missing: 2", x.missing(), 2);
        x.wheel(1);
        Check.same("a wheel prime is not missing", x.missing(), -1);
        StrikeWheels y = Check.of("sieve 1;stretch 7;");
        Check.same("9 is above LAST", y.missing(), -1);
        y.lay(1);
        Check.same("9 is LAST", y.missing(), 3);
        StrikeWheels z = Check.of("sieve 0;stretch 99;striker 2;striker 3;striker 6;");
        Check.same("25, 35, 49, 55, 65, 77, 85, 91, 95", z.wrong(), 9);
        StrikeWheels none = Check.of("sieve 0;");
        Check.same("wrong without marks", none.wrong(), 0);
        Check.same("firstWrong without marks", none.firstWrong(), -1);
        Check.same("gap without marks", none.gap(), 0);
        Check.same("missing without marks", none.missing(), -1);
    }

    private static void takesAndGives37To38() {
        StrikeWheels x = new StrikeWheels();
        int[][] due = {{2, 0}, {3, 0}, {5, 1}, {7, 0}, {120, 0}};
        for (int[] row : due) {
            Check.same("takes(" + row[0] + ")", x.takes(row[0]), row[1]);
        }
        for (int d : new int[] {1, 121, 0, LEAST, MOST}) {
            Check.illegalArgument("takes(" + d + ")", () -> x.takes(d));
        }
        StrikeWheels y = Check.of("sieve 0;stretch 39;striker 2;striker 3;striker 6;striker 5;");
        int[] given = {13, 6, 0, 2};
        for (int striker = 0; striker < given.length; striker++) {
            Check.same("gives(" + striker + ")", y.gives(striker), given[striker]);
        }
        Check.same("gives changes nothing", y.size(3), 4);
        Check.same("takes changes nothing", y.undoCount(), 0);
        for (int striker : new int[] {-1, 4, LEAST, MOST}) {
            Check.noSuchElement("gives(" + striker + ")", () -> y.gives(striker));
        }
        StrikeWheels full = Check.of("sieve 0;stretch 9;" + strikers(50, 30));
        Check.same("takes of a full row", full.takes(2), 4);
    }

    private static void best39() {
        Check.same("best of a new one", new StrikeWheels().best(), 5);
        Check.same("best without strikers", Check.of("sieve 0;stretch 48;").best(), 2);
        Check.same("best on odd numbers", Check.of("sieve 1;stretch 48;").best(), 3);
        Check.same("none", Check.of("sieve 0;").best(), -1);
        Check.same("none with all", Check.of("sieve 4;stretch 119;").best(), -1);
        Check.same("none but 11", Check.of("sieve 4;stretch 120;").best(), 11);
        Check.same("of several the smallest", Check.of("sieve 0;stretch 9;striker 2;").best(), 3);
        Check.same("5 and 7 take one each",
                Check.of("sieve 1;stretch 48;striker 3;striker 35;").best(), 5);
    }

    private static void marksNext40() {
        StrikeWheels x = new StrikeWheels();
        Check.same("marksNext(10)", x.marksNext(10), 3);
        Check.same("marksNext(1)", x.marksNext(1), 1);
        Check.same("marksNext(3)", x.marksNext(3), 1);
        Check.same("nothing is laid", x.size(2), 30);
        Check.same("as lay answers", x.marksNext(400), x.lay(400));
        for (int room : new int[] {0, 401, -1, LEAST, MOST}) {
            Check.illegalArgument("marksNext(" + room + ")", () -> x.marksNext(room));
        }
        StrikeWheels full = Check.of("sieve 0;" + stretches(12, 400) + "striker 2;");
        Check.same("one more than there could be", full.marksNext(400), 200);
        Check.same("without stretches", Check.of("sieve 2;").marksNext(6), 4);
        Check.same("squares above LAST strike", Check.of("sieve 0;stretch 1;striker 2;").marksNext(2), 1);
    }

    private static void leastWheel41() {
        Check.same("leastWheel of a new one", new StrikeWheels().leastWheel(), 3);
        Check.same("nothing missing at all", Check.of("sieve 4;stretch 2;").leastWheel(), 0);
        Check.same("2 is missing", Check.of("sieve 4;stretch 3;").leastWheel(), 1);
        Check.same("7 is missing", Check.of("sieve 0;stretch 48;striker 2;striker 3;").leastWheel(), 4);
        Check.same("11 is missing", Check.of("sieve 0;stretch 120;striker 2;striker 3;").leastWheel(), -1);
        StrikeWheels x = new StrikeWheels();
        x.leastWheel();
        Check.same("WHEEL stays", x.size(0), 1);
    }

    private static void measures42To44() {
        StrikeWheels x = new StrikeWheels();
        Check.same("shareBits", x.shareBits(), Float.floatToIntBits(11f / 29f));
        Check.isTrue("useful", x.useful() == 1.0);
        Check.isTrue("spokeShare", x.spokeShare() == 15f / 29f);
        StrikeWheels y = Check.of("sieve 0;stretch 39;striker 2;striker 3;striker 6;");
        Check.same("shareBits of another", y.shareBits(), Float.floatToIntBits(14f / 39f));
        Check.isTrue("useful of another", y.useful() == 25.0 / 31.0);
        Check.isTrue("spokeShare without a wheel", y.spokeShare() == 1f);
        StrikeWheels none = Check.of("sieve 2;striker 5;");
        Check.same("shareBits without laid numbers", none.shareBits(), 0);
        Check.isTrue("useful without strikes", none.useful() == 1.0);
        Check.isTrue("spokeShare without laid numbers", none.spokeShare() == 0f);
        none.lay(1);
        Check.same("all are marks", none.shareBits(), Float.floatToIntBits(1f));
        Check.isTrue("useful with laid numbers, without strikes", none.useful() == 1.0);
        StrikeWheels large = Check.of("sieve 0;" + stretches(12, 400) + "striker 2;striker 3;");
        Check.same("shareBits of 4800", large.shareBits(), Float.floatToIntBits((float) large.size(4) / 4800f));
    }

    private static void lay45() {
        StrikeWheels x = new StrikeWheels();
        Check.same("lay(10)", x.lay(10), 3);
        Check.same("LAST", x.size(2), 40);
        Check.same("undoCount", x.undoCount(), 1);
        for (int stretch = 2; stretch < 12; stretch++) {
            x.lay(400);
        }
        Check.same("12 stretches", x.size(1), 12);
        Check.same("lay is refused", x.lay(1), -2);
        Check.same("account 1", x.account(1), 1);
        Check.same("account 3", x.account(3), 11);
        Check.same("nothing is laid", x.size(2), 4040);
        for (int room : new int[] {0, 401, -1, LEAST, MOST}) {
            Check.illegalArgument("lay(" + room + ")", () -> x.lay(room));
        }
        Check.same("exceptions are no refusals", x.account(1), 1);
        Check.same("without stretches", Check.of("sieve 0;").lay(1), 1);
        Check.same("no marks", Check.of("sieve 1;stretch 2;").lay(1), 0);
    }

    private static void drop46() {
        StrikeWheels x = Check.of("sieve 1;stretch 9;stretch 7;");
        Check.same("drop", x.drop(), 10);
        Check.same("drop to none", x.drop(), 1);
        Check.same("drop is refused", x.drop(), -2);
        Check.same("undoCount", x.undoCount(), 2);
        Check.same("account 0", x.account(0), 2);
        Check.same("account 1", x.account(1), 1);
        x.undo();
        Check.same("undone", x.size(2), 10);
    }

    private static void trim47() {
        StrikeWheels x = Check.of("sieve 1;stretch 9;stretch 7;");
        Check.same("trim(3)", x.trim(3), 13);
        Check.same("as large as it is", x.trim(3), -3);
        Check.same("larger", x.trim(399), -3);
        Check.same("trim(1)", x.trim(1), 11);
        Check.same("trim(1) again", x.trim(1), -3);
        Check.same("both stretches stand", x.size(1), 2);
        for (int room : new int[] {0, 400, -1, LEAST, MOST}) {
            Check.illegalArgument("trim(" + room + ")", () -> x.trim(room));
        }
        x.drop();
        x.drop();
        Check.same("no stretch", x.trim(399), -2);
        Check.same("from 400", Check.of("sieve 1;stretch 400;").trim(399), 400);
        Check.same("account 1", x.account(1), 4);
        Check.same("no stretch was laid by lay", x.account(3), 0);
    }

    private static void swap48() {
        StrikeWheels x = Check.of("sieve 0;stretch 39;striker 2;striker 3;striker 6;");
        Check.same("swap(2, 3)", x.swap(2, 3), 5);
        Check.same("find(2)", x.find(2), 1);
        Check.same("cause(12)", x.cause(12), 3);
        Check.same("swap(3, 6)", x.swap(3, 6), 5);
        Check.same("with itself", x.swap(6, 6), 0);
        Check.same("which is recorded", x.undoCount(), 3);
        Check.same("no striker", x.swap(6, 7), -2);
        Check.same("no striker, the other way", x.swap(7, 6), -2);
        Check.same("no striker twice", x.swap(7, 7), -2);
        for (int d : new int[] {1, 121, LEAST, MOST}) {
            Check.illegalArgument("swap(" + d + ", 2)", () -> x.swap(d, 2));
            Check.illegalArgument("swap(2, " + d + ")", () -> x.swap(2, d));
            Check.illegalArgument("swap(7, " + d + ")", () -> x.swap(7, d));
        }
        StrikeWheels y = Check.of("sieve 0;stretch 39;striker 2;striker 3;striker 6;");
        Check.same("one between gets some", y.swap(2, 6), 5);
        Check.same("9 stays", y.cause(9), 3);
        Check.same("12 was 2's", y.cause(12), 3);
        Check.same("36 was 2's", y.cause(36), 6);
    }

    private static void add49() {
        StrikeWheels x = Check.of("sieve 0;stretch 39;striker 2;");
        Check.same("add(3)", x.add(3), 6);
        Check.same("add(6)", x.add(6), 0);
        Check.same("behind all others", x.find(6), 2);
        Check.same("add(6) again", x.add(6), -2);
        for (int d : new int[] {1, 121, 0, LEAST, MOST}) {
            Check.illegalArgument("add(" + d + ")", () -> x.add(d));
        }
        StrikeWheels full = Check.of("sieve 0;" + strikers(50, 30));
        Check.same("30 strikers", full.add(2), -3);
        Check.same("is one already ahead of 30", full.add(50), -2);
        Check.same("account 1", full.account(1), 2);
        Check.same("account 4", full.account(4), 0);
        full.lift(79);
        Check.same("29 strikers", full.add(2), 0);
        Check.same("account 4 then", full.account(4), 1);
    }

    private static void lift50() {
        StrikeWheels x = Check.of("sieve 0;stretch 39;striker 2;striker 3;striker 6;");
        Check.same("lift(3)", x.lift(3), 6);
        Check.same("find(6)", x.find(6), 1);
        Check.same("lift(3) again", x.lift(3), -2);
        Check.same("36 stays with 6", x.lift(2), 18);
        Check.same("36 comes back", x.lift(6), 1);
        Check.same("all numbers are marks", x.size(4), 39);
        for (int d : new int[] {1, 121, 0, LEAST, MOST}) {
            Check.illegalArgument("lift(" + d + ")", () -> x.lift(d));
        }
    }

    private static void first51() {
        StrikeWheels x = Check.of("sieve 0;stretch 39;striker 2;striker 3;striker 6;");
        Check.same("first(6)", x.first(6), 2);
        int[] row = {6, 2, 3};
        for (int striker = 0; striker < 3; striker++) {
            Check.same("the others follow", x.striker(striker, 0), row[striker]);
        }
        Check.same("owner", x.cause(36), 6);
        Check.same("first(6) again", x.first(6), 0);
        Check.same("recorded", x.undoCount(), 2);
        Check.same("first(2)", x.first(2), 1);
        Check.same("no striker", x.first(5), -2);
        for (int d : new int[] {1, 121, 0, LEAST, MOST}) {
            Check.illegalArgument("first(" + d + ")", () -> x.first(d));
        }
    }

    private static void wheel52() {
        StrikeWheels x = new StrikeWheels();
        Check.same("wheel(4)", x.wheel(4), 1);
        Check.same("wheel(0)", x.wheel(0), 4);
        Check.same("marks", x.size(4), 21);
        Check.same("wheel(0) again", x.wheel(0), 0);
        Check.same("recorded", x.undoCount(), 3);
        for (int wheel : new int[] {-1, 5, LEAST, MOST}) {
            Check.illegalArgument("wheel(" + wheel + ")", () -> x.wheel(wheel));
        }
    }

    private static void fill53() {
        StrikeWheels x = Check.of("sieve 0;stretch 120;");
        Check.same("fill(2)", x.fill(2), 2);
        Check.same("3 is second", x.find(3), 1);
        Check.same("fill(30)", x.fill(30), 3);
        Check.same("11 is last", x.find(11), 4);
        Check.same("fill with none missing", x.fill(1), 0);
        Check.same("recorded", x.undoCount(), 3);
        Check.same("account 0", x.account(0), 3);
        Check.same("account 4", x.account(4), 5);
        for (int many : new int[] {0, 31, -1, LEAST, MOST}) {
            Check.illegalArgument("fill(" + many + ")", () -> x.fill(many));
        }
        StrikeWheels full = Check.of("sieve 0;stretch 120;" + strikers(80, 28));
        Check.same("as many as there is room", full.fill(9), 2);
        Check.same("30 strikers", full.size(3), 30);
        Check.same("no room is no refusal", full.fill(9), 0);
        Check.same("account 1", full.account(1), 0);
    }

    private static void tidy54() {
        StrikeWheels x = Check.of("sieve 0;stretch 39;striker 7;striker 2;striker 6;striker 3;striker 12;striker 4;");
        Check.same("tidy", x.tidy(), 4);
        Check.same("3 owns 9", x.find(3), 1);
        Check.same("2 owns 4", x.find(2), 0);
        Check.same("tidy again", x.tidy(), 0);
        Check.same("recorded", x.undoCount(), 2);
        x.undo();
        x.undo();
        Check.same("undone", x.size(3), 6);
        Check.same("in their places", x.find(4), 5);
        StrikeWheels y = Check.of("sieve 0;stretch 39;striker 6;striker 2;striker 3;");
        Check.same("6 owns 36", y.tidy(), 0);
    }

    private static void play55() {
        StrikeWheels x = new StrikeWheels();
        Check.same("play of nothing", x.play(0), 0);
        Check.same("which is recorded", x.undoCount(), 1);
        Check.same("all orders", Check.play(x,
                "lay 10;drop;lay 3;add 5;add 6;first 6;swap 3 5;lift 6;wheel 2;fill 30;"), 10);
        Check.same("WHEEL", x.size(0), 2);
        Check.same("LAST", x.size(2), 33);
        Check.same("5 is ahead of 3", x.find(3), 1);
        Check.same("one operation", x.undoCount(), 2);
        Check.same("account 0", x.account(0), 10);
        Check.same("undo", x.undo(), 1);
        Check.same("all is undone: WHEEL", x.size(0), 1);
        Check.same("all is undone: LAST", x.size(2), 30);
        Check.same("refused at the second one", Check.play(x, "lay 3;add 3;lay 4;"), 1);
        Check.same("those ahead stay", x.size(2), 33);
        Check.same("refused at the first one", Check.play(x, "lift 9;lay 4;"), 0);
        Check.same("recorded, too", x.undoCount(), 3);
        Check.same("account 1", x.account(1), 2);
        Check.same("20 orders", Check.play(x, "wheel 1;".repeat(20)), 20);
        scriptErrors(x);
        Check.illegalArgument("play(-1)", () -> x.play(-1));
        Check.illegalArgument("play of more than there is", () -> x.play(1));
        x.feed(0x64726f70, 0x3b64726f, 0x703b2020, 0x20202020, 0x20202020);
        Check.illegalArgument("play of one more", () -> x.play(21));
        Check.same("the first bytes only", x.play(5), 1);
        Check.same("the buffer is empty", x.feed(0, 0, 0, 0, 0), 20);
    }

    private static void scriptError(StrikeWheels x, String text, int code, int position) {
        int last = x.size(2);
        int undoCount = x.undoCount();
        int done = x.account(0);
        int refused = x.account(1);
        Check.same("play of " + text, Check.play(x, text), -10 - code);
        Check.same("error position of " + text, x.errorPosition(), position);
        Check.same("LAST stays", x.size(2), last);
        Check.same("undoCount stays", x.undoCount(), undoCount);
        Check.same("account 0 stays", x.account(0), done);
        Check.same("account 1 stays", x.account(1), refused);
    }

    private static void scriptErrors(StrikeWheels x) {
        scriptError(x, "lay 3;lay 0;", 2, 10);
        scriptError(x, "lay 401;", 2, 4);
        scriptError(x, "lay;", 1, 3);
        scriptError(x, "lay 3", 1, 5);
        scriptError(x, "drop 3;", 1, 5);
        scriptError(x, "drop", 1, 4);
        scriptError(x, "add 1;", 2, 4);
        scriptError(x, "add 121;", 2, 4);
        scriptError(x, "lift 1;", 2, 5);
        scriptError(x, "first 121;", 2, 6);
        scriptError(x, "swap 3;", 1, 6);
        scriptError(x, "swap 3 1;", 2, 7);
        scriptError(x, "swap 121 1;", 2, 5);
        scriptError(x, "swap 3 4 5;", 1, 9);
        scriptError(x, "wheel 5;", 2, 6);
        scriptError(x, "fill 0;", 2, 5);
        scriptError(x, "fill 31;", 2, 5);
        scriptError(x, "trim 3;", 1, 0);
        scriptError(x, "tidy;", 1, 0);
        scriptError(x, "play;", 1, 0);
        scriptError(x, "3;", 1, 0);
        scriptError(x, ";", 1, 0);
        scriptError(x, "lays 3;", 1, 0);
        scriptError(x, "la 3;", 1, 0);
        scriptError(x, "wheel 1;".repeat(20) + "drop;", 4, 160);
        scriptError(x, "wheel 1;".repeat(20) + "oh;", 1, 160);
        scriptError(x, "wheel 1;".repeat(20) + "9", 1, 160);
    }

    private static void formats(String text, int stretch, String due) {
        StrikeWheels x = Check.of(text);
        int length = x.format(stretch);
        Check.same("length of " + due, length, due.length());
        Check.sameText("format of " + text, Check.formatted(x, length), due);
        Check.same("behind the text", x.formattedByte(length), -1);
    }

    private static void format56To57() {
        formats("sieve 1;stretch 29;striker 3;striker 5;", 0, "2.3.5.7 11.13 17.19 23 29");
        formats("sieve 1;stretch 3;striker 3;", 0, "2.3");
        formats("sieve 1;stretch 7;stretch 8;striker 3;", 1, "11.13");
        formats("sieve 1;stretch 7;stretch 5;stretch 3;striker 3;", 2, "");
        formats("sieve 1;stretch 2;stretch 1;", 1, "");
        formats("sieve 0;stretch 14;striker 4;striker 3;striker 2;", 0, "2.3 5 7 11 13");
        formats("sieve 0;" + stretches(3, 332) + "stretch 4;", 3, "998.999.1000.1001");
        formats("sieve 0;stretch 97;stretch 3;", 1, "99.100.101");
        StrikeWheels x = Check.of("sieve 0;" + stretches(12, 400));
        Check.same("the longest text", x.format(11), 1999);
        Check.same("its last byte", x.formattedByte(1998), '1');
        Check.same("none behind it", x.formattedByte(1999), -1);
        for (int stretch : new int[] {-1, 12, LEAST, MOST}) {
            Check.noSuchElement("format(" + stretch + ")", () -> x.format(stretch));
        }
        Check.same("a format that throws leaves the text", x.formattedByte(0), '4');
        Check.load(x, "sieve 1;stretch 29;striker 3;");
        Check.same("as it was, also after load", x.formattedByte(0), '4');
        x.saveSnapshot();
        x.lay(3);
        x.undo();
        x.restoreSnapshot();
        Check.same("as it was, also after undo and restoreSnapshot", x.formattedByte(1998), '1');
        Check.same("another text", x.format(0), 28);
        Check.same("its first byte", x.formattedByte(0), '2');
        Check.same("nothing of the one before", x.formattedByte(28), -1);
        for (int index : new int[] {-1, LEAST, MOST}) {
            Check.same("formattedByte(" + index + ")", x.formattedByte(index), -1);
        }
        Check.same("no operation", x.undoCount(), 0);
    }

    private static void undo58To59() {
        StrikeWheels x = new StrikeWheels();
        Check.same("nothing to undo", x.undo(), -1);
        Check.same("which counts nothing", x.account(2), 0);
        for (int room = 1; room <= 10; room++) {
            x.lay(room);
            Check.same("undoCount", x.undoCount(), Math.min(room, 8));
        }
        for (int left = 7; left >= 0; left--) {
            Check.same("undo", x.undo(), left);
            Check.same("stretches", x.size(1), left + 3);
        }
        Check.same("gone for good", x.undo(), -1);
        Check.same("two are left", x.size(2), 33);
        Check.same("account 2", x.account(2), 8);
        Check.same("account 3 stays", x.account(3), 10);
        x.drop();
        x.drop();
        x.drop();
        x.drop();
        Check.same("a refused one is not recorded", x.undoCount(), 3);
        Check.same("undo of a drop", x.undo(), 2);
        Check.same("LAST", x.size(2), 30);
        StrikeWheels y = Check.of("sieve 0;stretch 39;striker 2;striker 3;striker 6;");
        y.trim(9);
        y.first(6);
        y.lift(3);
        y.wheel(2);
        y.swap(2, 6);
        y.tidy();
        Check.same("six", y.undoCount(), 6);
        for (int left = 5; left >= 0; left--) {
            y.undo();
        }
        Check.same("LAST as it was", y.size(2), 40);
        Check.same("WHEEL as it was", y.size(0), 0);
        Check.same("the row as it was", y.find(6), 2);
        Check.same("the marks as they were", y.size(4), 14);
    }

    private static void snapshot60To61() {
        StrikeWheels x = new StrikeWheels();
        Check.isTrue("none", !x.restoreSnapshot());
        x.add(5);
        x.saveSnapshot();
        Check.same("no operation", x.undoCount(), 1);
        x.lay(9);
        x.wheel(0);
        Check.isTrue("restored", x.restoreSnapshot());
        Check.same("history is cleared", x.undoCount(), 0);
        Check.same("WHEEL", x.size(0), 1);
        Check.same("LAST", x.size(2), 30);
        Check.same("row", x.find(5), 1);
        Check.same("marks", x.size(4), 10);
        Check.same("accounts stay", x.account(0), 3);
        Check.same("no undo is counted", x.account(2), 0);
        x.drop();
        Check.isTrue("the snapshot is kept", x.restoreSnapshot());
        Check.same("LAST again", x.size(2), 30);
        x.drop();
        x.saveSnapshot();
        x.undo();
        Check.same("undo leaves the snapshot", x.size(2), 30);
        Check.isTrue("a later one", x.restoreSnapshot());
        Check.same("takes the place of the one before", x.size(2), 1);
        StrikeWheels y = new StrikeWheels();
        y.lay(3);
        Check.isTrue("without a snapshot", !y.restoreSnapshot());
        Check.same("nothing changes", y.undoCount(), 1);
    }
}
