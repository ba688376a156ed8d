/** The boundary cases that the document's "Operations" names, sentence by sentence, and those of promises 45 to 55 and 58 to 61. */
public final class OperationsEdgeTest {
    private static final int ILLEGAL = Edges.ILLEGAL_ARGUMENT;

    private OperationsEdgeTest() {
    }

    public static void main(String[] args) {
        theOperations();
        oneBehindTheOther();
        recordedWithoutChange();
        refusedChangesNothing();
        rangesOfStretches();
        rangesOfSwap();
        rangesOfStrikers();
        rangesOfWheelAndFill();
        rangesOfLength();
        exceptionsFirst();
        codesInTheirOrder();
        eightMostRecent();
        goneForGood();
        playIsOne();
        undoLeaves();
        scriptEnds();
        accountsStay();
        accountOfDone();
        accountOfRefused();
        accountOfUndone();
        accountOfLaid();
        accountOfAdded();
        noSuch();
        layTwelve();
        dropNone();
        trimNone();
        trimNotSmaller();
        swapOwners();
        swapNoStriker();
        addOneAlready();
        addThirty();
        liftNone();
        firstNone();
        wheelBefore();
        fillAsMany();
        fillUpToThirty();
        tidyAll();
        playOrders();
        playNothing();
        undoCountOf();
        undoNone();
        snapshotReplaced();
        snapshotOfAll();
        restoreClears();
        restoreNone();
        Check.close("OperationsEdgeTest");
    }

    private static void row(String what, StrikeWheels x, int... due) {
        Check.same(what + ": strikers", x.size(3), due.length);
        for (int striker = 0; striker < due.length; striker++) {
            Check.same(what + ": striker " + striker, x.find(due[striker]), striker);
        }
    }

    private static void accounts(String what, StrikeWheels x, int... due) {
        for (int account = 0; account < due.length; account++) {
            Check.same(what + ": account(" + account + ")", x.account(account), due[account]);
        }
    }

    // ---- operations in common

    private static void theOperations() {
        Edges.sentence("lay, drop, trim, add, lift, first, swap, wheel, fill, tidy and play are operations.");
        Edges.Use[] calls = {x -> x.lay(4), StrikeWheels::drop, x -> x.trim(1), x -> x.add(11), x -> x.lift(3), x -> x.first(9),
            x -> x.swap(3, 9), x -> x.wheel(4), x -> x.fill(30), StrikeWheels::tidy, x -> Check.play(x, "drop;lift 3;")};
        for (int index = 0; index < calls.length; index++) {
            StrikeWheels x = Edges.busy();
            Check.isTrue("operation " + index + " is done", calls[index].of(x) >= 0);
            Check.same("operation " + index + " is recorded", x.undoCount(), 3);
            Check.same("operation " + index + " is undone", x.undo(), 2);
            row("operation " + index + " is undone", x, 3, 9, 5, 7);
            Check.same("operation " + index + " is undone: LAST", x.size(2), 62);
            Check.same("operation " + index + " is undone: WHEEL", x.size(0), 1);
            Check.same("operation " + index + " is undone: stretches", x.size(1), 3);
            Check.same("operation " + index + " is undone: marks", x.size(4), 18);
        }
        Edges.Use[] others = {x -> x.feed(1, 2, 3, 4, 5), x -> x.format(0), x -> x.takes(11), x -> x.marksNext(9),
            x -> Check.load(x, "oh"), x -> Check.play(x, "oh")};
        for (int index = 0; index < others.length; index++) {
            StrikeWheels x = Edges.busy();
            others[index].of(x);
            Check.same("other call " + index + " is not recorded", x.undoCount(), 2);
            accounts("other call " + index, x, 3, 1, 1, 1, 1);
        }
        StrikeWheels saved = Edges.busy();
        saved.saveSnapshot();
        Check.same("saveSnapshot is not recorded", saved.undoCount(), 2);
        accounts("saveSnapshot", saved, 3, 1, 1, 1, 1);
        saved.restoreSnapshot();
        accounts("restoreSnapshot", saved, 3, 1, 1, 1, 1);
    }

    /** Each operation behind each other one, nothing asked between, makes what a text with the same makes. */
    private static void oneBehindTheOther() {
        Edges.sentence("does its orders, one after the other");
        Edges.Use[] calls = {x -> x.lay(4), StrikeWheels::drop, x -> x.trim(7), x -> x.add(2), x -> x.lift(3), x -> x.first(5),
            x -> x.swap(3, 5), x -> x.wheel(0), x -> x.fill(30), StrikeWheels::undo, x -> x.restoreSnapshot() ? 1 : 0,
            x -> Check.play(x, "wheel 0;drop;lift 5;")};
        for (Edges.Use ahead : calls) {
            for (Edges.Use behind : calls) {
                StrikeWheels x = Check.of("sieve 1;stretch 40;stretch 9;striker 3;striker 9;striker 5;");
                x.saveSnapshot();
                x.wheel(2);
                x.size(4);
                ahead.of(x);
                behind.of(x);
                StringBuilder text = new StringBuilder("sieve ").append(x.size(0)).append(';');
                for (int stretch = 0; stretch < x.size(1); stretch++) {
                    text.append("stretch ").append(x.stretch(stretch, 1) - x.stretch(stretch, 0) + 1).append(';');
                }
                for (int striker = 0; striker < x.size(3); striker++) {
                    text.append("striker ").append(x.striker(striker, 0)).append(';');
                }
                StrikeWheels y = Check.of(text.toString());
                Check.sameText("sizes", sizes(x), sizes(y));
                for (int number = 1; number < 60; number++) {
                    Check.same("cause(" + number + ")", x.cause(number), y.cause(number));
                }
            }
        }
    }

    private static void recordedWithoutChange() {
        Edges.sentence("Every successful call is recorded, even if it changes nothing.");
        Edges.Use[] calls = {x -> x.first(3), x -> x.swap(9, 9), x -> x.wheel(1), x -> x.fill(1), StrikeWheels::tidy,
            x -> x.play(0), x -> Check.play(x, "lift 8;"), x -> Check.play(x, "wheel 1;")};
        int[] done = {1, 1, 1, 1, 1, 0, 0, 1};
        for (int index = 0; index < calls.length; index++) {
            StrikeWheels x = Check.of("sieve 1;stretch 40;striker 3;striker 9;striker 5;");
            x.tidy();
            x.add(9);
            x.first(9);
            x.first(3);
            x.trim(30);
            StrikeWheels y = Check.of("sieve 1;stretch 30;striker 3;striker 5;");
            y.lay(1);
            Edges.Use call = calls[index];
            StrikeWheels z = index == 4 ? y : x;
            int undoable = z.undoCount();
            int doneBefore = z.account(0);
            int marks = z.size(4);
            Check.isTrue("call " + index + " is done", call.of(z) >= 0);
            Check.same("call " + index + " changes no mark", z.size(4), marks);
            Check.same("call " + index + " is recorded", z.undoCount(), undoable + 1);
            Check.same("call " + index + ": account 0", z.account(0), doneBefore + done[index]);
            Check.same("call " + index + " is undone", z.undo(), undoable);
            Check.same("call " + index + ", undone, changes no mark", z.size(4), marks);
        }
    }

    private static void refusedChangesNothing() {
        Edges.sentence("A call that returns a negative error code or throws an exception changes nothing but account 1"
                + " (play and load empty the buffer, too)");
        Edges.refusesAndKeeps("lay with 12", -2, Edges::withAllStretches, x -> x.lay(1));
        Edges.refusesAndKeeps("lay with 12, the greatest", -2, Edges::withAllStretches, x -> x.lay(400));
        Edges.refusesAndKeeps("drop without any", -2, Edges::withoutAny, StrikeWheels::drop);
        Edges.refusesAndKeeps("trim without any", -2, Edges::withoutAny, x -> x.trim(1));
        Edges.refusesAndKeeps("trim to the same", -3, Edges::busyAndFed, x -> x.trim(12));
        Edges.refusesAndKeeps("trim to more", -3, Edges::busyAndFed, x -> x.trim(399));
        Edges.refusesAndKeeps("swap, no first", -2, Edges::busyAndFed, x -> x.swap(4, 9));
        Edges.refusesAndKeeps("swap, no second", -2, Edges::busyAndFed, x -> x.swap(9, 4));
        Edges.refusesAndKeeps("swap, none of both", -2, Edges::busyAndFed, x -> x.swap(4, 4));
        Edges.refusesAndKeeps("add one already", -2, Edges::busyAndFed, x -> x.add(9));
        Edges.refusesAndKeeps("add one already with 30", -2, Edges::withAllStrikers, x -> x.add(3));
        Edges.refusesAndKeeps("add with 30", -3, Edges::withAllStrikers, x -> x.add(2));
        Edges.refusesAndKeeps("lift none", -2, Edges::busyAndFed, x -> x.lift(120));
        Edges.refusesAndKeeps("lift without any", -2, Edges::withoutAny, x -> x.lift(2));
        Edges.refusesAndKeeps("first none", -2, Edges::busyAndFed, x -> x.first(2));
        Edges.refusesAndKeeps("first without any", -2, Edges::withoutAny, x -> x.first(2));
        Edges.errorAndKeeps("sieve 0;stretch 9;striker 9;striker 9;", false, 3, 36);
        Edges.errorAndKeeps("lay 9;add 20;wheel 4;lift 3;drop;swap 3 5", true, 1, 41);
    }

    private static void rangesOfStretches() {
        Edges.promise(45, "`room`: 1 to 400", "Throws `IllegalArgumentException` if room is out of range");
        Edges.range("lay", 1, 400, Edges::busyAndFed, StrikeWheels::lay);
        Edges.promise(47, "`room`: 1 to 399", "Throws `IllegalArgumentException` if room is out of range");
        Edges.range("trim", 1, 399, Edges::busyAndFed, StrikeWheels::trim);
        Edges.range("trim of the greatest", 1, 399, Edges::withAllStretches, StrikeWheels::trim);
    }

    private static void rangesOfSwap() {
        Edges.promise(48, "`d`: 2 to 120", "`e`: 2 to 120", "Throws `IllegalArgumentException` if d or e is out of range");
        Edges.range("swap(.., 3)", 2, 120, Edges::busyAndFed, (x, d) -> x.swap(d, 3));
        Edges.range("swap(3, ..)", 2, 120, Edges::busyAndFed, (x, d) -> x.swap(3, d));
        Edges.range("swap(.., ..)", 2, 120, Edges::busyAndFed, (x, d) -> x.swap(d, d));
    }

    private static void rangesOfStrikers() {
        Edges.promise(49, "`d`: 2 to 120", "Throws `IllegalArgumentException` if d is out of range");
        Edges.range("add", 2, 120, Edges::busyAndFed, StrikeWheels::add);
        Edges.promise(50, "`d`: 2 to 120", "Throws `IllegalArgumentException` if d is out of range");
        Edges.range("lift", 2, 120, Edges::busyAndFed, StrikeWheels::lift);
        Edges.promise(51, "`d`: 2 to 120", "Throws `IllegalArgumentException` if d is out of range");
        Edges.range("first", 2, 120, Edges::busyAndFed, StrikeWheels::first);
    }

    private static void rangesOfWheelAndFill() {
        Edges.promise(52, "`wheel`: 0 to 4", "Throws `IllegalArgumentException` if wheel is out of range");
        Edges.range("wheel", 0, 4, Edges::busyAndFed, StrikeWheels::wheel);
        Edges.promise(53, "`many`: 1 to 30", "Throws `IllegalArgumentException` if many is out of range");
        Edges.range("fill", 1, 30, Edges::busyAndFed, StrikeWheels::fill);
        Edges.range("fill of all there are", 1, 30, Edges::withAllStrikers, StrikeWheels::fill);
    }

    private static void rangesOfLength() {
        Edges.promise(3, "if length is negative or greater than the number of bytes in the buffer (nothing changes)");
        Edges.range("load", 0, 20, Edges::busyAndFed, StrikeWheels::load);
        Edges.range("load from an empty buffer", 0, 0, Edges::busy, StrikeWheels::load);
        Edges.promise(55, "if length is negative or greater than the number of bytes in the buffer (nothing changes)");
        Edges.range("play", 0, 20, Edges::busyAndFed, StrikeWheels::play);
        Edges.range("play from an empty buffer", 0, 0, Edges::busy, StrikeWheels::play);
    }

    private static void exceptionsFirst() {
        Edges.sentence("error codes are checked after the exceptions");
        for (int number : new int[] {0, 401, Edges.LEAST, Edges.MOST}) {
            Edges.throwsAndKeeps("lay(" + number + ") with 12", ILLEGAL, Edges::withAllStretches, x -> x.lay(number));
            Edges.throwsAndKeeps("trim(" + number + ") without any", ILLEGAL, Edges::withoutAny, x -> x.trim(number));
        }
        Edges.throwsAndKeeps("trim(400) without any", ILLEGAL, Edges::withoutAny, x -> x.trim(400));
        Edges.throwsAndKeeps("trim(400) of 12", ILLEGAL, Edges::busyAndFed, x -> x.trim(400));
        for (int number : new int[] {1, 121, 0, Edges.LEAST, Edges.MOST}) {
            Edges.throwsAndKeeps("swap(4, " + number + ")", ILLEGAL, Edges::busyAndFed, x -> x.swap(4, number));
            Edges.throwsAndKeeps("swap(" + number + ", 4)", ILLEGAL, Edges::busyAndFed, x -> x.swap(number, 4));
            Edges.throwsAndKeeps("add(" + number + ") with 30", ILLEGAL, Edges::withAllStrikers, x -> x.add(number));
            Edges.throwsAndKeeps("lift(" + number + ") without any", ILLEGAL, Edges::withoutAny, x -> x.lift(number));
            Edges.throwsAndKeeps("first(" + number + ") without any", ILLEGAL, Edges::withoutAny, x -> x.first(number));
        }
        Edges.throwsAndKeeps("fill(31) with 30", ILLEGAL, Edges::withAllStrikers, x -> x.fill(31));
        Edges.throwsAndKeeps("play(21) of a script with an error", ILLEGAL, Edges::busyAndFed, x -> x.play(21));
    }

    private static void codesInTheirOrder() {
        Edges.sentence("in the order in which they are listed");
        StrikeWheels x = Edges.withAllStrikers();
        Check.same("is one already, and there are 30", x.add(50), -2);
        Check.same("there are 30", x.add(49), -3);
        StrikeWheels none = Edges.withoutAny();
        Check.same("no stretch, so none is greater either", none.trim(399), -2);
        none.lay(399);
        Check.same("not greater", none.trim(399), -3);
    }

    private static void eightMostRecent() {
        Edges.sentence("The 8 most recent operations can be undone, the most recent one first");
        StrikeWheels x = new StrikeWheels();
        int last = 30;
        for (int many = 1; many <= 8; many++) {
            x.lay(many);
            Check.same("undoCount of " + many, x.undoCount(), many);
        }
        for (int many = 8; many >= 1; many--) {
            Check.same("undo " + many, x.undo(), many - 1);
            Check.same("LAST", x.size(2), last + many * (many - 1) / 2);
        }
        Check.same("all eight are undone", x.size(2), last);
        Check.same("no ninth", x.undo(), -1);
    }

    private static void goneForGood() {
        Edges.sentence("an operation that falls out of these is gone for good");
        StrikeWheels x = new StrikeWheels();
        for (int many = 1; many <= 9; many++) {
            x.lay(many);
            Check.same("undoCount of " + many, x.undoCount(), Math.min(many, 8));
        }
        for (int left = 7; left >= 0; left--) {
            Check.same("undo", x.undo(), left);
        }
        Check.same("the first one stays", x.size(2), 31);
        Check.same("gone for good", x.undo(), -1);
        Check.same("gone for good: LAST", x.size(2), 31);
        Check.same("undoCount", x.undoCount(), 0);
        accounts("undone", x, 9, 0, 8, 9, 0);
        StrikeWheels y = new StrikeWheels();
        for (int many = 0; many < 40; many++) {
            y.wheel(many % 5);
            y.wheel(4);
            y.undo();
        }
        Check.same("the eight behind many", y.undoCount(), 7);
        for (int left = 6; left >= 0; left--) {
            Check.same("undo behind many", y.undo(), left);
            Check.same("WHEEL behind many", y.size(0), (left + 2) % 5);
        }
        Check.same("nothing else", y.undo(), -1);
    }

    private static void playIsOne() {
        Edges.sentence("a play is one operation");
        StrikeWheels x = new StrikeWheels();
        Check.same("of many orders", Check.play(x, "lay 5;lay 6;wheel 3;add 7;first 7;swap 3 7;lift 3;fill 2;drop;lay 9;"), 10);
        Check.same("undoCount", x.undoCount(), 1);
        Check.same("undo", x.undo(), 0);
        Check.sameText("all of it is undone", sizes(x), sizes(new StrikeWheels()));
        for (int many = 1; many <= 9; many++) {
            Check.play(x, "lay 1;drop;wheel " + many % 5 + ";");
        }
        Check.same("eight plays", x.undoCount(), 8);
        for (int left = 7; left >= 0; left--) {
            Check.same("undo of a play", x.undo(), left);
        }
        Check.same("the first one stays", x.size(0), 1);
    }

    private static String sizes(StrikeWheels x) {
        StringBuilder text = new StringBuilder();
        for (int what = 0; what <= 9; what++) {
            text.append(x.size(what)).append(' ');
        }
        return text.toString();
    }

    private static void undoLeaves() {
        Edges.sentence("Undoing restores everything that the operation changed, but not the buffer, the error position, the text of"
                + " format, the accounts and the snapshot.");
        StrikeWheels x = Check.of("sieve 1;stretch 9;striker 3;");
        x.saveSnapshot();
        Check.play(x, "lay 4;add 5;");
        x.lay(20);
        x.saveSnapshot();
        int length = x.format(2);
        Check.load(x, "oh oh");
        Check.feed(x, "drop;");
        Check.same("undo", x.undo(), 1);
        Check.same("LAST", x.size(2), 14);
        Check.sameText("the text of format", Check.formatted(x, length), "17.19 23 29.31");
        Check.same("its end", x.formattedByte(length), -1);
        Check.same("the error position", x.errorPosition(), 0);
        accounts("undone", x, 3, 0, 1, 2, 1);
        Check.same("the buffer", x.feed(0, 0, 0, 0, 0), 40);
        Check.same("the script in it", x.play(5), 1);
        Check.isTrue("the snapshot", x.restoreSnapshot());
        Check.same("the snapshot's LAST", x.size(2), 34);
    }

    private static void scriptEnds() {
        Edges.sentence("A script ends at the first order that is refused (returns a negative error code).");
        StrikeWheels x = new StrikeWheels();
        Check.same("at the third one", Check.play(x, "lay 3;add 5;add 5;lay 4;wheel 0;"), 2);
        Check.same("LAST", x.size(2), 33);
        Check.same("WHEEL", x.size(0), 1);
        row("at the third one", x, 3, 5);
        accounts("at the third one", x, 2, 1, 0, 1, 1);
        Check.same("undo", x.undo(), 0);
        Check.sameText("those ahead of it are undone", sizes(x), sizes(new StrikeWheels()));
        String[] refused = {"drop;drop;", "lift 4;", "first 4;", "swap 4 3;", "swap 3 4;", "add 3;"};
        int[] done = {1, 0, 0, 0, 0, 0};
        for (int index = 0; index < refused.length; index++) {
            StrikeWheels y = new StrikeWheels();
            Check.same(refused[index], Check.play(y, refused[index] + "wheel 4;lay 9;"), done[index]);
            Check.same(refused[index] + " ends it", y.size(0), 1);
            accounts(refused[index], y, done[index], 1, 0, 0, 0);
        }
        StrikeWheels full = Edges.withAllStretches();
        Check.same("lay with 12", Check.play(full, "lay 1;drop;"), 0);
        Check.same("lay with 12 ends it", full.size(1), 12);
        StrikeWheels all = Edges.withAllStrikers();
        Check.same("add with 30", Check.play(all, "add 2;lift 3;"), 0);
        Check.same("add with 30 ends it", all.size(3), 30);
        Check.same("fill with 30 is none", Check.play(all, "fill 30;lift 3;"), 2);
        Check.same("an order that answers 0 is none", Check.play(new StrikeWheels(), "swap 3 3;lift 3;first 2;"), 2);
    }

    // ---- accounts

    private static void accountsStay() {
        Edges.sentence("Accounts are counted since the object was made, and stay when operations are undone");
        StrikeWheels x = new StrikeWheels();
        accounts("new", x, 0, 0, 0, 0, 0);
        x.lay(4);
        x.fill(2);
        x.drop();
        x.undo();
        x.undo();
        x.undo();
        accounts("undone", x, 3, 0, 3, 1, 1);
        x.saveSnapshot();
        x.restoreSnapshot();
        accounts("restored", x, 3, 0, 3, 1, 1);
        Check.load(x, "sieve 1;stretch 1;striker 9;");
        accounts("loaded", x, 3, 0, 3, 1, 1);
    }

    private static void accountOfDone() {
        Edges.sentence("0 operations that were done (each order of a script, too, but not play itself)");
        StrikeWheels x = new StrikeWheels();
        Check.play(x, "");
        Check.same("a play of nothing", x.account(0), 0);
        Check.play(x, "wheel 1;wheel 2;lay 4;");
        Check.same("three orders", x.account(0), 3);
        Check.play(x, "lift 9;wheel 1;");
        Check.same("none behind a refused one", x.account(0), 3);
        x.tidy();
        Check.same("a call", x.account(0), 4);
        x.lift(9);
        Check.same("a refused call", x.account(0), 4);
    }

    private static void accountOfRefused() {
        Edges.sentence("1 those that were refused with an error code (in scripts, too; not texts with errors)");
        StrikeWheels x = new StrikeWheels();
        x.lift(9);
        Check.same("a call", x.account(1), 1);
        Check.play(x, "wheel 1;lift 9;lift 9;");
        Check.same("one order, since the script ends", x.account(1), 2);
        Check.play(x, "lift 9;lift 1;");
        Check.load(x, "sieve 7;");
        Check.same("texts with errors are none", x.account(1), 2);
        Check.illegalArgument("lift(1)", () -> x.lift(1));
        Check.noSuchElement("format(9)", () -> x.format(9));
        Check.same("exceptions are none", x.account(1), 2);
        for (int bytes = 20; bytes <= 600; bytes += 20) {
            x.feed(0, 0, 0, 0, 0);
        }
        Check.same("a full buffer", x.feed(0, 0, 0, 0, 0), -1);
        x.undo();
        Check.same("nothing to undo", x.undo(), -1);
        Check.same("other calls that answer NONE are none", x.account(1), 2);
    }

    private static void accountOfUndone() {
        Edges.sentence("2 operations that were undone");
        StrikeWheels x = new StrikeWheels();
        x.undo();
        Check.same("nothing to undo", x.account(2), 0);
        Check.play(x, "lay 1;lay 2;lay 3;");
        x.undo();
        Check.same("a play is one", x.account(2), 1);
        x.wheel(1);
        x.undo();
        Check.same("one without a change", x.account(2), 2);
        x.saveSnapshot();
        x.wheel(2);
        x.restoreSnapshot();
        Check.same("restoreSnapshot undoes none", x.account(2), 2);
    }

    private static void accountOfLaid() {
        Edges.sentence("3 stretches that were laid by lay");
        StrikeWheels x = Check.of("sieve 0;" + Edges.stretches(9, 4));
        Check.same("none by load", x.account(3), 0);
        x.lay(1);
        x.trim(1);
        Check.play(x, "lay 2;drop;lay 3;lay 4;lay 5;");
        Check.same("by lay and by scripts, the 13th one refused", x.account(3), 4);
        x.trim(1);
        Check.same("none by trim", x.account(3), 4);
        x.undo();
        x.undo();
        x.undo();
        Check.same("undone ones stay", x.account(3), 4);
    }

    private static void accountOfAdded() {
        Edges.sentence("4 strikers that were added (by add and fill)");
        StrikeWheels x = Check.of("sieve 0;stretch 120;" + Edges.strikers(91, 20));
        Check.same("none by load", x.account(4), 0);
        x.add(2);
        Check.same("by add", x.account(4), 1);
        x.add(2);
        Check.same("none by an add that is refused", x.account(4), 1);
        x.fill(2);
        Check.same("by fill", x.account(4), 3);
        x.fill(30);
        Check.same("as many as fill added", x.account(4), 5);
        x.fill(30);
        Check.same("no more", x.account(4), 5);
        Check.play(x, "lift 2;fill 1;add 4;");
        Check.same("by scripts", x.account(4), 7);
        x.first(2);
        x.swap(2, 3);
        x.undo();
        x.undo();
        x.undo();
        x.undo();
        Check.same("undone ones stay", x.account(4), 7);
    }

    private static void noSuch() {
        Edges.sentence("NoSuchElementException is thrown if there is no such stretch, striker or laid number.");
        StrikeWheels none = Edges.withoutAny();
        Check.noSuchElement("stretch(0, 0)", () -> none.stretch(0, 0));
        Check.noSuchElement("striker(0, 0)", () -> none.striker(0, 0));
        Check.noSuchElement("struck(2)", () -> none.struck(2));
        Check.noSuchElement("both(0, 0)", () -> none.both(0, 0));
        Check.noSuchElement("meet(0, 0)", () -> none.meet(0, 0));
        Check.noSuchElement("gives(0)", () -> none.gives(0));
        Check.noSuchElement("format(0)", () -> none.format(0));
        Check.play(none, "lay 1;add 2;");
        Check.same("stretch(0, 0) then", none.stretch(0, 0), 2);
        Check.same("striker(0, 0) then", none.striker(0, 0), 2);
        Check.same("struck(2) then", none.struck(2), 0);
        Check.same("both(0, 0) then", none.both(0, 0), 0);
        Check.same("meet(0, 0) then", none.meet(0, 0), -1);
        Check.same("gives(0) then", none.gives(0), 0);
        Check.same("format(0) then", none.format(0), 1);
        none.undo();
        Check.noSuchElement("undone: stretch(0, 0)", () -> none.stretch(0, 0));
        Check.noSuchElement("undone: striker(0, 0)", () -> none.striker(0, 0));
        Check.noSuchElement("undone: struck(2)", () -> none.struck(2));
    }

    // ---- each operation

    private static void layTwelve() {
        Edges.sentence("Returns its marks; -2 if there are 12.");
        StrikeWheels x = Check.of("sieve 1;" + Edges.stretches(10, 3) + "striker 3;");
        Check.same("the 11th one: 33", x.lay(2), 0);
        Check.same("the 12th one: 35, 37", x.lay(4), 2);
        Check.same("the 13th one", x.lay(4), -2);
        Check.same("12", x.size(1), 12);
        Check.same("LAST", x.size(2), 37);
        x.drop();
        Check.same("the 12th one again", x.lay(400), x.stretch(11, 2));
        StrikeWheels none = Edges.withoutAny();
        Check.same("the first one", none.lay(1), 1);
        Check.same("the first one: LAST", none.size(2), 2);
        StrikeWheels all = Check.of("sieve 0;");
        Check.same("all of it marks", all.lay(400), 400);
    }

    private static void dropNone() {
        Edges.sentence("Returns LAST then; -2 if there is none.");
        StrikeWheels x = Check.of("sieve 1;stretch 1;stretch 400;");
        Check.same("the second one", x.drop(), 2);
        Check.same("the first one", x.drop(), 1);
        Check.same("none", x.drop(), -2);
        Check.same("none is left", x.size(1), 0);
        Check.same("LAST", x.size(2), 1);
        Check.same("recorded", x.undoCount(), 2);
        StrikeWheels y = Check.of("sieve 1;stretch 9;stretch 9;");
        Check.same("marks ahead of it", y.size(4), 10);
        y.drop();
        Check.same("marks behind it", y.size(4), 5);
    }

    private static void trimNone() {
        Edges.sentence("Returns LAST then; -2 if there is no stretch, -3 if its ROOM is not greater than that.");
        StrikeWheels none = Edges.withoutAny();
        Check.same("none, the smallest", none.trim(1), -2);
        Check.same("none, the greatest", none.trim(399), -2);
        StrikeWheels x = Check.of("sieve 1;stretch 20;stretch 400;");
        Check.same("399 of 400", x.trim(399), 420);
        Check.same("399 of 399", x.trim(399), -3);
        Check.same("398 of 399", x.trim(398), 419);
        Check.same("1 of 398", x.trim(1), 22);
        Check.same("1 of 1", x.trim(1), -3);
        Check.same("the last one stands", x.size(1), 2);
        Check.same("the one ahead is as it was", x.stretch(0, 1), 21);
    }

    private static void trimNotSmaller() {
        Edges.sentence("Operation: the last stretch gets a smaller ROOM.");
        StrikeWheels x = Check.of("sieve 1;stretch 20;stretch 30;");
        Check.same("one more", x.trim(31), -3);
        Check.same("the same", x.trim(30), -3);
        Check.same("one less", x.trim(29), 50);
        Check.same("undo", x.undo(), 0);
        Check.same("LAST", x.size(2), 51);
        accounts("trim", x, 1, 2, 1, 0, 0);
    }

    private static void swapOwners() {
        Edges.sentence("Returns how many laid numbers got another owner by it; -2 if one of both is no striker.");
        StrikeWheels x = Check.of("sieve 0;stretch 34;striker 2;striker 3;striker 6;");
        Check.same("12, 18, 24, 30", x.swap(2, 3), 4);
        row("swapped", x, 3, 2, 6);
        Check.same("back", x.swap(2, 3), 4);
        x.lay(1);
        Check.same("36, too", x.swap(3, 2), 5);
        Check.same("36 alone: with 6 between", x.swap(6, 3), 5);
        row("the ends", x, 6, 2, 3);
        Check.same("the same", x.swap(6, 6), 0);
        row("the same", x, 6, 2, 3);
        StrikeWheels y = Check.of("sieve 1;stretch 60;striker 2;striker 3;striker 7;");
        Check.same("3 and 7 have none in common", y.swap(3, 7), 0);
        Check.same("one on no spoke", y.swap(2, 3), 0);
        row("swapped without another owner", y, 3, 7, 2);
    }

    private static void swapNoStriker() {
        Edges.sentence("-2 if one of both is no striker");
        StrikeWheels x = Check.of("sieve 0;stretch 34;striker 2;striker 120;");
        Check.same("no first", x.swap(3, 2), -2);
        Check.same("no second", x.swap(2, 3), -2);
        Check.same("neither", x.swap(3, 4), -2);
        Check.same("twice none", x.swap(3, 3), -2);
        Check.same("both ends", x.swap(2, 120), 0);
        row("both ends", x, 120, 2);
        accounts("swap", x, 1, 4, 0, 0, 0);
    }

    private static void addOneAlready() {
        Edges.sentence("Returns how many laid numbers it owns; -2 if it is one already, -3 if there are 30.");
        StrikeWheels x = Check.of("sieve 0;stretch 34;striker 3;");
        Check.same("2 owns all but 12, 18, 24, 30", x.add(2), 12);
        Check.same("6 owns none up to 35", x.add(6), 0);
        Check.same("5 owns 25, 35", x.add(5), 2);
        Check.same("120 owns none", x.add(120), 0);
        row("behind all others", x, 3, 2, 6, 5, 120);
        Check.same("the first one again", x.add(3), -2);
        Check.same("the last one again", x.add(120), -2);
        x.lift(3);
        Check.same("3 again, behind 2 now", x.add(3), 5);
    }

    private static void addThirty() {
        Edges.sentence("-3 if there are 30");
        StrikeWheels x = Check.of("sieve 0;stretch 8;" + Edges.strikers(60, 28));
        Check.same("the 29th one", x.add(3), 1);
        Check.same("the 30th one", x.add(2), 3);
        Check.same("the 31st one", x.add(4), -3);
        Check.same("one already", x.add(2), -2);
        Check.same("30", x.size(3), 30);
        x.lift(60);
        Check.same("the 30th one again", x.add(120), 0);
        accounts("add", x, 4, 2, 0, 0, 3);
    }

    private static void liftNone() {
        Edges.sentence("Returns the marks that came back; -2 if there is no such striker.");
        StrikeWheels x = Check.of("sieve 0;stretch 35;striker 2;striker 3;striker 6;striker 120;");
        Check.same("none of 120", x.lift(120), 0);
        Check.same("120 again", x.lift(120), -2);
        Check.same("9, 15, 21, 27, 33", x.lift(3), 5);
        row("without 3", x, 2, 6);
        Check.same("all but 36", x.lift(2), 16);
        Check.same("36", x.lift(6), 1);
        Check.same("none is left", x.lift(6), -2);
        Check.same("all marks", x.size(4), 35);
        StrikeWheels all = Edges.withAllStrikers();
        Check.same("the first of 30", all.lift(50), 0);
        Check.same("the last of 30", all.lift(3), 8);
        Check.same("28 are left", all.size(3), 28);
        Check.same("they moved up", all.find(51), 0);
        Check.same("up to the last", all.find(78), 27);
    }

    private static void firstNone() {
        Edges.sentence("Returns where it was in the row; -2 if there is no such striker.");
        StrikeWheels x = Check.of("sieve 0;" + Edges.strikers(50, 30));
        Check.same("the last one", x.first(79), 29);
        Check.same("the first one now", x.first(79), 0);
        Check.same("the others moved", x.find(50), 1);
        Check.same("up to the last", x.find(78), 29);
        Check.same("the second one", x.first(50), 1);
        Check.same("the one ahead", x.find(79), 1);
        Check.same("those behind stay", x.find(51), 2);
        Check.same("none", x.first(49), -2);
        Check.same("none, the other end", x.first(80), -2);
        Check.same("recorded", x.undoCount(), 3);
        x.undo();
        x.undo();
        x.undo();
        Check.same("undone: the first", x.find(50), 0);
        Check.same("undone: the last", x.find(79), 29);
    }

    private static void wheelBefore() {
        Edges.sentence("Returns WHEEL before.");
        StrikeWheels x = new StrikeWheels();
        Check.same("0", x.wheel(0), 1);
        Check.same("4", x.wheel(4), 0);
        Check.same("4 again", x.wheel(4), 4);
        Check.same("marks", x.size(4), 10);
        Check.same("undo", x.undo(), 2);
        Check.same("undo", x.undo(), 1);
        Check.same("0 again", x.wheel(3), 0);
        Edges.throwsAndKeeps("wheel(5)", ILLEGAL, Edges::busyAndFed, y -> y.wheel(5));
        Edges.throwsAndKeeps("wheel(-1)", ILLEGAL, Edges::busyAndFed, y -> y.wheel(-1));
    }

    private static void fillAsMany() {
        Edges.sentence("the smallest missing striker is added, again and again, as many as told, or as long as there is one");
        StrikeWheels x = Check.of("sieve 0;stretch 120;");
        Check.same("one", x.fill(1), 1);
        row("one", x, 2);
        Check.same("three more", x.fill(3), 3);
        row("three more", x, 2, 3, 5, 7);
        Check.same("as long as there is one", x.fill(30), 1);
        row("as long as there is one", x, 2, 3, 5, 7, 11);
        Check.same("none", x.fill(1), 0);
        Check.same("recorded", x.undoCount(), 4);
        StrikeWheels nothing = Check.of("sieve 0;stretch 2;");
        Check.same("LAST 3", nothing.fill(30), 0);
        nothing.lay(1);
        Check.same("LAST 4", nothing.fill(30), 1);
        StrikeWheels all = Check.of("sieve 0;" + Edges.stretches(12, 400));
        Check.same("all that there can be", all.fill(30), 19);
        Check.same("the last one", all.striker(18, 0), 67);
        StrikeWheels again = Check.of("sieve 1;stretch 80;striker 9;");
        Check.same("3, then 5 and 7, since 9 is one", again.fill(30), 3);
        row("again", again, 9, 3, 5, 7);
    }

    private static void fillUpToThirty() {
        Edges.sentence("(and there are fewer than 30)");
        StrikeWheels x = Check.of("sieve 0;stretch 120;" + Edges.strikers(80, 28));
        Check.same("two", x.fill(30), 2);
        Check.same("30", x.size(3), 30);
        Check.same("the last one", x.find(3), 29);
        Check.same("none", x.fill(1), 0);
        Check.same("5 is missing", x.missing(), 5);
        accounts("fill", x, 2, 0, 0, 0, 2);
        StrikeWheels y = Check.of("sieve 0;stretch 120;" + Edges.strikers(80, 29));
        Check.same("one", y.fill(2), 1);
        Check.same("30, too", y.size(3), 30);
        StrikeWheels z = Check.of("sieve 0;stretch 120;" + Edges.strikers(80, 27));
        Check.same("two as told", z.fill(2), 2);
        Check.same("29", z.size(3), 29);
    }

    private static void tidyAll() {
        Edges.sentence("all strikers that own no laid number are taken away, one behind the other by the row (as the others are then)");
        StrikeWheels none = Check.of("sieve 0;" + Edges.strikers(2, 30));
        Check.same("nothing laid", none.tidy(), 30);
        Check.same("none is left", none.size(3), 0);
        Check.same("none again", none.tidy(), 0);
        Check.same("recorded", none.undoCount(), 2);
        none.undo();
        none.undo();
        Check.same("undone", none.find(31), 29);
        StrikeWheels x = Check.of("sieve 0;stretch 15;striker 4;striker 2;striker 8;striker 16;striker 3;striker 5;");
        Check.same("LAST 16: 8, 16, 5", x.tidy(), 3);
        row("LAST 16", x, 4, 2, 3);
        x.undo();
        x.trim(14);
        Check.same("LAST 15: 4, 8, 16, 5", x.tidy(), 4);
        row("LAST 15", x, 2, 3);
        StrikeWheels y = Check.of("sieve 0;stretch 40;striker 6;striker 3;striker 2;");
        Check.same("each owns one", y.tidy(), 0);
        y.swap(6, 2);
        Check.same("6 behind 3 and 2", y.tidy(), 1);
        row("without 6", y, 2, 3);
        StrikeWheels empty = Edges.withoutAny();
        Check.same("without strikers", empty.tidy(), 0);
    }

    private static void playOrders() {
        Edges.sentence("Returns the number of orders that were done;");
        StrikeWheels x = new StrikeWheels();
        Check.same("20", Check.play(x, "wheel 1;".repeat(20)), 20);
        Check.same("19 of 20", Check.play(x, "wheel 1;".repeat(19) + "add 3;"), 19);
        Check.same("1 of 20", Check.play(x, "wheel 1;" + "add 3;".repeat(19)), 1);
        Check.same("none of 1", Check.play(x, "add 3;"), 0);
        Check.same("none of none", Check.play(x, ""), 0);
        Check.same("all recorded", x.undoCount(), 5);
        accounts("play", x, 40, 3, 0, 0, 0);
    }

    private static void playNothing() {
        Edges.sentence("reads the first bytes of the buffer as a script and does its orders, one after the other");
        StrikeWheels x = new StrikeWheels();
        Check.feed(x, "lay 1;lay 2;lay 3;  ");
        Check.same("the first 12", x.play(12), 2);
        Check.same("LAST", x.size(2), 33);
        Check.same("the stretches", x.stretch(2, 0), 32);
        Check.feed(x, "lay 1;lay 2;lay 3;  ");
        Check.same("none of 20", x.play(0), 0);
        Check.same("the buffer is empty", x.feed(0, 0, 0, 0, 0), 20);
    }

    // ---- undo, snapshot

    private static void undoCountOf() {
        Edges.sentence("Returns the number of operations that can be undone.");
        StrikeWheels x = new StrikeWheels();
        Check.same("new", x.undoCount(), 0);
        x.wheel(1);
        Check.same("one", x.undoCount(), 1);
        x.add(3);
        Check.same("a refused one", x.undoCount(), 1);
        Check.illegalArgument("wheel(5)", () -> x.wheel(5));
        Check.same("one that throws", x.undoCount(), 1);
        for (int many = 0; many < 7; many++) {
            x.wheel(1);
        }
        Check.same("eight", x.undoCount(), 8);
        x.wheel(1);
        Check.same("nine", x.undoCount(), 8);
        x.undo();
        Check.same("seven", x.undoCount(), 7);
        x.wheel(1);
        Check.same("eight again", x.undoCount(), 8);
        Check.load(x, "sieve 1;");
        Check.same("loaded", x.undoCount(), 0);
    }

    private static void undoNone() {
        Edges.sentence("Returns the number of operations that can still be undone; NONE if there was nothing to undo.");
        Edges.tellsAndKeeps("undo of nothing", () -> Check.of("sieve 3;stretch 9;striker 5;"), StrikeWheels::undo);
        StrikeWheels x = new StrikeWheels();
        Check.same("nothing", x.undo(), -1);
        x.lay(1);
        x.lay(2);
        Check.same("one is left", x.undo(), 1);
        Check.same("none is left", x.undo(), 0);
        Check.same("nothing again", x.undo(), -1);
        accounts("undo", x, 2, 0, 2, 2, 0);
        x.lay(3);
        Check.same("one behind it", x.undo(), 0);
        Check.same("LAST", x.size(2), 30);
    }

    private static void snapshotReplaced() {
        Edges.sentence("It replaces an earlier snapshot.");
        StrikeWheels x = new StrikeWheels();
        x.saveSnapshot();
        x.lay(4);
        x.saveSnapshot();
        x.drop();
        x.drop();
        Check.isTrue("restored", x.restoreSnapshot());
        Check.same("the later one", x.size(2), 34);
        Check.isTrue("restored again", x.restoreSnapshot());
        Check.same("the same one", x.size(2), 34);
    }

    private static void snapshotOfAll() {
        Edges.sentence("Saves a snapshot of everything that undoing restores.");
        StrikeWheels x = Edges.busy();
        x.saveSnapshot();
        Check.same("which is no operation", x.undoCount(), 2);
        Check.play(x, "wheel 0;drop;drop;drop;lay 300;lift 3;lift 9;first 7;add 100;");
        Check.isTrue("restored", x.restoreSnapshot());
        Check.same("WHEEL", x.size(0), 1);
        row("restored", x, 3, 9, 5, 7);
        Check.same("stretches", x.size(1), 3);
        Check.same("their ends", x.stretch(1, 1), 50);
        Check.same("LAST", x.size(2), 62);
        accounts("but no account", x, 12, 1, 1, 2, 2);
    }

    private static void restoreClears() {
        Edges.sentence("Restores the snapshot and clears the undo history. The snapshot is kept.");
        StrikeWheels x = new StrikeWheels();
        x.lay(4);
        x.saveSnapshot();
        x.lay(5);
        Check.isTrue("restored", x.restoreSnapshot());
        Check.same("history", x.undoCount(), 0);
        Check.same("undo", x.undo(), -1);
        Check.same("LAST", x.size(2), 34);
        x.wheel(3);
        Check.same("an operation behind it", x.undo(), 0);
        x.drop();
        Check.isTrue("the snapshot is kept", x.restoreSnapshot());
        Check.same("LAST again", x.size(2), 34);
        Check.same("history again", x.undoCount(), 0);
    }

    private static void restoreNone() {
        Edges.sentence("Returns true; false if there is no snapshot (nothing changes).");
        Edges.Maker maker = () -> {
            StrikeWheels x = new StrikeWheels();
            x.lay(9);
            x.add(7);
            x.undo();
            x.wheel(4);
            x.lift(99);
            x.format(1);
            Check.play(x, "drop;9");
            Check.feed(x, "sieve 0;stretch 50; ");
            return x;
        };
        Check.isTrue("none", !maker.made().restoreSnapshot());
        Edges.tellsAndKeeps("restoreSnapshot without one", maker, x -> x.restoreSnapshot() ? 1 : 0);
        StrikeWheels x = maker.made();
        x.saveSnapshot();
        Check.isTrue("one", x.restoreSnapshot());
        Check.same("load", x.load(5), -11);
        Check.isTrue("an error of load discards none", x.restoreSnapshot());
        Check.same("load then", Check.load(x, "sieve 2;"), 1);
        Check.isTrue("load discards it", !x.restoreSnapshot());
        Check.same("WHEEL stays", x.size(0), 2);
    }
}
