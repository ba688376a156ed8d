import java.util.NoSuchElementException;

/** Primes by wheels that strike out, stretch by stretch. README.md tells how to use it. */
public final class StrikeWheels {
    public static final int NONE = -1;

    private static final int MOST_WHEEL = 4;
    private static final int MOST_STRETCHES = 12;
    private static final int MOST_ROOM = 400;
    private static final int MOST_LAST = 1 + MOST_STRETCHES * MOST_ROOM;
    private static final int MOST_STRIKERS = 30;
    private static final int LEAST_D = 2;
    private static final int MOST_D = 120;
    private static final int MOST_GAP = 400;
    private static final int MOST_TURN = 5000;
    private static final int MOST_ORDERS = 20;
    private static final int MOST_UNDO = 8;
    private static final int BUFFER_BYTES = 600;
    private static final int BYTES_OF_FEED = 20;

    private static final int DONE = 0;
    private static final int REFUSED = 1;
    private static final int UNDONE = 2;
    private static final int LAID = 3;
    private static final int ADDED = 4;
    private static final int ACCOUNTS = 5;

    private final Plan plan = new Plan();
    private final Plan before = new Plan();
    private final Plan draft = new Plan();
    private final Plan snapshot = new Plan();
    private boolean hasSnapshot = false;
    private final History history = new History();
    private final Sieve sieve = new Sieve();
    private final Source source = new Source();
    private final Reader reader = new Reader(source);
    private final Script script = new Script();
    private final Sheet sheet = new Sheet();
    private final int[] accounts = new int[ACCOUNTS];
    private int positionOfError = NONE;

    public StrikeWheels() {
        plan.beginWith(1);
        plan.appendStretch(29);
        plan.appendStriker(3);
    }

    public int feed(int a, int b, int c, int d, int e) {
        if (source.filled() + BYTES_OF_FEED > BUFFER_BYTES) {
            return NONE;
        }
        source.appendFour(a);
        source.appendFour(b);
        source.appendFour(c);
        source.appendFour(d);
        source.appendFour(e);
        return source.filled();
    }

    public int load(int length) throws IllegalArgumentException {
        needInRange(length, 0, source.filled());
        int error = reader.readText(length, draft);
        closeReading();
        if (error != 0) {
            return -10 - error;
        }
        plan.takeOver(draft);
        history.forget();
        hasSnapshot = false;
        return plan.lastNumber();
    }

    public int errorPosition() {
        return positionOfError;
    }

    // ---- what there is

    public int size(int what) throws IllegalArgumentException {
        needInRange(what, 0, 9);
        switch (what) {
            case 0:
                return plan.wheelNow();
            case 1:
                return plan.stretchCount();
            case 2:
                return plan.lastNumber();
            case 3:
                return plan.strikerCount();
            case 4:
                return current().markCount();
            case 5:
                return current().spokeCount();
            case 6:
                return Wheels.product(plan.wheelNow());
            case 7:
                return Wheels.spokesUpTo(Wheels.product(plan.wheelNow()), plan.wheelNow());
            case 8:
                return plan.countMissing(plan.wheelNow());
            default:
                return countIdle();
        }
    }

    public int account(int what) throws IllegalArgumentException {
        needInRange(what, 0, ACCOUNTS - 1);
        return accounts[what];
    }

    public int stretch(int stretch, int what) throws NoSuchElementException, IllegalArgumentException {
        needStretch(stretch);
        needInRange(what, 0, 5);
        int from = plan.firstNumberOf(stretch);
        int to = plan.lastNumberOf(stretch);
        switch (what) {
            case 0:
                return from;
            case 1:
                return to;
            case 2:
                return current().marksBetween(from, to);
            case 3:
                return current().spokesBetween(from, to);
            case 4:
                return orNone(current().markAbove(from - 1), from, to);
            default:
                return orNone(current().markBelow(to + 1), from, to);
        }
    }

    public int striker(int striker, int what) throws NoSuchElementException, IllegalArgumentException {
        needStriker(striker);
        needInRange(what, 0, 5);
        int d = plan.dOf(striker);
        switch (what) {
            case 0:
                return d;
            case 1:
                return current().countStrikes(d);
            case 2:
                return current().countOwned(d);
            case 3:
                return Wheels.strikeAbove(plan.lastNumber(), d, plan.wheelNow());
            case 4:
                return Wheels.isPrime(d) ? 1 : 0;
            default:
                return current().smallestOwned(d);
        }
    }

    public int find(int d) {
        return plan.placeOf(d);
    }

    public int at(int number) {
        int owner = current().ownerOf(number);
        switch (owner) {
            case Sieve.NOT_LAID:
                return 3;
            case Sieve.OFF_SPOKES:
                return 1;
            case Sieve.MARKED:
                return 0;
            default:
                return 2;
        }
    }

    public int cause(int number) {
        int owner = current().ownerOf(number);
        switch (owner) {
            case Sieve.NOT_LAID:
                return plan.lastNumber();
            case Sieve.OFF_SPOKES:
                return Wheels.smallestPrimeOf(number, plan.wheelNow());
            case Sieve.MARKED:
                return 0;
            default:
                return owner;
        }
    }

    public int struck(int number) throws NoSuchElementException {
        int owner = current().ownerOf(number);
        if (owner == Sieve.NOT_LAID) {
            throw new NoSuchElementException();
        }
        return owner == Sieve.OFF_SPOKES ? 0 : plan.countHits(number, 0, plan.strikerCount());
    }

    public int spokeAt(int place) {
        int wheel = plan.wheelNow();
        int product = Wheels.product(wheel);
        int left = place;
        for (int number = 1; number <= product && left >= 0; number++) {
            if (Wheels.isFree(number, wheel)) {
                if (left == 0) {
                    return number;
                }
                left--;
            }
        }
        return NONE;
    }

    public int spokeOf(int number) {
        if (number < 1) {
            return NONE;
        }
        int wheel = plan.wheelNow();
        int product = Math.max(Wheels.product(wheel), 1);
        int left = (number - 1) % product + 1;
        return Wheels.isFree(left, wheel) ? Wheels.spokesUpTo(left, wheel) - 1 : NONE;
    }

    public int both(int striker, int other) throws NoSuchElementException {
        needStriker(striker);
        needStriker(other);
        int many = 0;
        for (int number = nextCommon(striker, other, 0); number != NONE && many < MOST_LAST;
                number = nextCommon(striker, other, number)) {
            many++;
        }
        return many;
    }

    public int meet(int striker, int other) throws NoSuchElementException {
        needStriker(striker);
        needStriker(other);
        return nextCommon(striker, other, 0);
    }

    // ---- marks

    public int upTo(int number) {
        return current().marksUpTo(number);
    }

    public int mark(int place) {
        return current().markAt(place);
    }

    public int between(int from, int to) {
        return current().marksBetween(from, to);
    }

    public int divisor(int number) {
        Sieve now = current();
        for (int mark = 2; mark <= now.lastNumber() && mark <= number; mark++) {
            if (now.isMark(mark) && number % mark == 0) {
                return mark;
            }
        }
        return NONE;
    }

    public int divisors(int number) {
        Sieve now = current();
        int many = 0;
        for (int mark = 2; mark <= now.lastNumber() && mark <= number; mark++) {
            if (now.isMark(mark) && number % mark == 0) {
                many++;
            }
        }
        return many;
    }

    public int longest() {
        Sieve now = current();
        int most = 0;
        int run = 0;
        for (int number = 2; number <= now.lastNumber(); number++) {
            int owner = now.ownerOf(number);
            if (owner == Sieve.MARKED) {
                run++;
                most = Math.max(most, run);
            } else if (owner != Sieve.OFF_SPOKES) {
                run = 0;
            }
        }
        return most;
    }

    public int chain(int number) {
        Sieve now = current();
        int many = 0;
        for (int link = number; many < MOST_LAST && now.isMark(link); link = 2 * link + 1) {
            many++;
        }
        return many;
    }

    public int turn(int turn) throws IllegalArgumentException {
        needInRange(turn, 0, MOST_TURN);
        int product = Wheels.product(plan.wheelNow());
        return current().marksBetween(product * turn + 1, product * (turn + 1));
    }

    public int next(int number, boolean isBelow) {
        return isBelow ? current().markBelow(number) : current().markAbove(number);
    }

    public int gaps(int gap) throws IllegalArgumentException {
        needInRange(gap, 1, MOST_GAP);
        Sieve now = current();
        int pairs = 0;
        for (int number = 2; number + gap <= now.lastNumber(); number++) {
            if (now.isMark(number) && now.isMark(number + gap)
                    && now.marksBetween(number, number + gap) == 2) {
                pairs++;
            }
        }
        return pairs;
    }

    public int widest() {
        int mark = widestAt();
        return mark == NONE ? 0 : current().markAbove(mark) - mark;
    }

    // 2 has a mark whenever it is laid, since no square is as small: the first difference is from it.
    public int widestAt() {
        Sieve now = current();
        int best = NONE;
        int most = 0;
        int earlier = 2;
        for (int number = 3; number <= now.lastNumber(); number++) {
            if (now.isMark(number)) {
                if (number - earlier > most) {
                    most = number - earlier;
                    best = earlier;
                }
                earlier = number;
            }
        }
        return best;
    }

    public int twins(int gap) throws IllegalArgumentException {
        needInRange(gap, 1, MOST_GAP);
        Sieve now = current();
        int many = 0;
        for (int number = 2; number + gap <= now.lastNumber(); number++) {
            if (now.isMark(number) && now.isMark(number + gap)) {
                many++;
            }
        }
        return many;
    }

    public int sums(int number) {
        int ways = 0;
        for (int part = nextPart(number, 0); part != NONE && ways < MOST_LAST; part = nextPart(number, part)) {
            ways++;
        }
        return ways;
    }

    public int leastOf(int number) {
        return nextPart(number, 0);
    }

    public int thickest(int many) throws IllegalArgumentException {
        needInRange(many, 1, MOST_ROOM);
        Sieve now = current();
        int most = 0;
        for (int to = 2; to <= now.lastNumber(); to++) {
            most = Math.max(most, now.marksBetween(to - many + 1, to));
        }
        return most;
    }

    // ---- what is right

    public int wrong() {
        Sieve now = current();
        int many = 0;
        for (int number = 2; number <= now.lastNumber(); number++) {
            if (now.isMark(number) && !Wheels.isPrime(number)) {
                many++;
            }
        }
        return many;
    }

    public int firstWrong() {
        Sieve now = current();
        for (int number = 2; number <= now.lastNumber(); number++) {
            if (now.isMark(number) && !Wheels.isPrime(number)) {
                return number;
            }
        }
        return NONE;
    }

    public int gap() {
        Sieve now = current();
        int lost = 0;
        for (int number = 2; number <= now.lastNumber(); number++) {
            if (!now.isMark(number) && Wheels.isPrime(number)) {
                lost++;
            }
        }
        return plan.smallestMissing(plan.wheelNow()) == NONE ? lost + wrong() : lost;
    }

    public int missing() {
        return plan.smallestMissing(plan.wheelNow());
    }

    // ---- what would be; nothing changes

    public int takes(int d) throws IllegalArgumentException {
        needInRange(d, LEAST_D, MOST_D);
        return current().countTaken(d);
    }

    public int gives(int striker) throws NoSuchElementException {
        needStriker(striker);
        return countGiven(current(), striker);
    }

    public int best() {
        Sieve now = current();
        int best = NONE;
        int most = 0;
        for (int d = LEAST_D; d <= MOST_D; d++) {
            int taken = now.countTaken(d);
            if (taken > most) {
                most = taken;
                best = d;
            }
        }
        return best;
    }

    public int marksNext(int room) throws IllegalArgumentException {
        needInRange(room, 1, MOST_ROOM);
        int last = plan.lastNumber();
        int many = 0;
        for (int number = last + 1; number <= last + room; number++) {
            if (Wheels.isOnSpoke(number, plan.wheelNow()) && plan.firstHit(number) == NONE) {
                many++;
            }
        }
        return many;
    }

    public int leastWheel() {
        for (int wheel = 0; wheel <= MOST_WHEEL; wheel++) {
            if (plan.smallestMissing(wheel) == NONE) {
                return wheel;
            }
        }
        return NONE;
    }

    // ---- measures

    public int shareBits() {
        int laid = plan.lastNumber() - 1;
        return laid == 0 ? 0 : bitsOfShare((float) current().markCount() / (float) laid);
    }

    public double useful() {
        Sieve now = current();
        int strikes = 0;
        for (int striker = 0; striker < plan.strikerCount(); striker++) {
            strikes += now.countStrikes(plan.dOf(striker));
        }
        return strikes == 0 ? 1.0 : (double) (now.spokeCount() - now.markCount()) / (double) strikes;
    }

    public float spokeShare() {
        int laid = plan.lastNumber() - 1;
        return laid == 0 ? 0.0f : (float) current().spokeCount() / (float) laid;
    }

    // ---- operations

    public int lay(int room) throws IllegalArgumentException {
        return operate(Order.LAY, room, 0);
    }

    public int drop() {
        return operate(Order.DROP, 0, 0);
    }

    public int trim(int room) throws IllegalArgumentException {
        return operate(Order.TRIM, room, 0);
    }

    public int swap(int d, int e) throws IllegalArgumentException {
        return operate(Order.SWAP, d, e);
    }

    public int add(int d) throws IllegalArgumentException {
        return operate(Order.ADD, d, 0);
    }

    public int lift(int d) throws IllegalArgumentException {
        return operate(Order.LIFT, d, 0);
    }

    public int first(int d) throws IllegalArgumentException {
        return operate(Order.FIRST, d, 0);
    }

    public int wheel(int wheel) throws IllegalArgumentException {
        return operate(Order.WHEEL, wheel, 0);
    }

    public int fill(int many) throws IllegalArgumentException {
        return operate(Order.FILL, many, 0);
    }

    public int tidy() {
        return operate(Order.TIDY, 0, 0);
    }

    public int play(int length) throws IllegalArgumentException {
        needInRange(length, 0, source.filled());
        int error = reader.readScript(length, script);
        closeReading();
        if (error != 0) {
            return -10 - error;
        }
        history.push(plan);
        int done = 0;
        for (int index = 0; index < script.count(); index++) {
            Order order = script.orderAt(index);
            if (order == null
                    || counted(carryOut(order, script.numberAt(index), script.otherAt(index))) < 0) {
                break;
            }
            done++;
        }
        return done;
    }

    // ---- texts, undo

    public int format(int stretch) throws NoSuchElementException {
        needStretch(stretch);
        Sieve now = current();
        sheet.erase();
        boolean isInRun = false;
        int to = plan.lastNumberOf(stretch);
        for (int number = plan.firstNumberOf(stretch); number <= to; number++) {
            int owner = now.ownerOf(number);
            if (owner == Sieve.MARKED) {
                if (sheet.length() > 0) {
                    sheet.put(isInRun ? '.' : ' ');
                }
                sheet.putNumber(number);
                isInRun = true;
            } else if (owner != Sieve.OFF_SPOKES) {
                isInRun = false;
            }
        }
        return sheet.length();
    }

    public int formattedByte(int index) {
        return sheet.byteAt(index);
    }

    public int undoCount() {
        return history.count();
    }

    public int undo() {
        if (history.count() == 0) {
            return NONE;
        }
        history.pop(plan);
        accounts[UNDONE]++;
        return history.count();
    }

    public void saveSnapshot() {
        snapshot.takeOver(plan);
        hasSnapshot = true;
    }

    public boolean restoreSnapshot() {
        if (!hasSnapshot) {
            return false;
        }
        plan.takeOver(snapshot);
        history.forget();
        return true;
    }

    // ---- what is asked of a call's arguments

    private static void needInRange(int value, int least, int most) {
        if (value < least || value > most) {
            throw new IllegalArgumentException();
        }
    }

    private void needStretch(int stretch) {
        if (stretch < 0 || stretch >= plan.stretchCount()) {
            throw new NoSuchElementException();
        }
    }

    private void needStriker(int striker) {
        if (striker < 0 || striker >= plan.strikerCount()) {
            throw new NoSuchElementException();
        }
    }

    // ---- counting

    private Sieve current() {
        if (!sieve.isBuiltFor(plan)) {
            sieve.build(plan);
        }
        return sieve;
    }

    private static int orNone(int number, int from, int to) {
        return number >= from && number <= to ? number : NONE;
    }

    private int countIdle() {
        Sieve now = current();
        int many = 0;
        for (int striker = 0; striker < plan.strikerCount(); striker++) {
            if (now.smallestOwned(plan.dOf(striker)) == NONE) {
                many++;
            }
        }
        return many;
    }

    /** The smallest laid number above another one that both strikers strike, or NONE. */
    private int nextCommon(int striker, int other, int above) {
        Sieve now = current();
        int d = plan.dOf(striker);
        for (int number = Math.max(d * d, above + d); d > 0 && number <= now.lastNumber(); number += d) {
            if (now.ownerOf(number) != Sieve.OFF_SPOKES && plan.countHits(number, other, other + 1) > 0) {
                return number;
            }
        }
        return NONE;
    }

    /** The smallest mark above another one that is not above the rest of the sum, the rest a mark, too. */
    private int nextPart(int number, int above) {
        Sieve now = current();
        for (int part = Math.max(2, above + 1); part <= now.lastNumber() && 2 * part <= number; part++) {
            if (now.isMark(part) && now.isMark(number - part)) {
                return part;
            }
        }
        return NONE;
    }

    private int countGiven(Sieve now, int striker) {
        int d = plan.dOf(striker);
        int many = 0;
        for (int number = d * d; d > 0 && number <= now.lastNumber(); number += d) {
            if (now.ownerOf(number) == d && plan.countHits(number, striker + 1, plan.strikerCount()) == 0) {
                many++;
            }
        }
        return many;
    }

    /** The bits of a float of 0 to 1, worked out by hand, since no library call for it may be used. */
    private static int bitsOfShare(float share) {
        if (share <= 0.0f) {
            return 0;
        }
        int exponent = 127;
        float scaled = share;
        for (int step = 0; step < 126 && scaled < 1.0f; step++) {
            scaled = scaled * 2.0f;
            exponent--;
        }
        return (exponent << 23) + ((int) (scaled * 8388608.0f) - 8388608);
    }

    // ---- operations, as scripts and calls have them in common

    private int operate(Order order, int number, int other) {
        if (!order.isInRange(number, other)) {
            throw new IllegalArgumentException();
        }
        before.takeOver(plan);
        int answer = counted(carryOut(order, number, other));
        if (answer >= 0) {
            history.push(before);
        }
        return answer;
    }

    private int counted(int answer) {
        accounts[answer < 0 ? REFUSED : DONE]++;
        return answer;
    }

    private int carryOut(Order order, int number, int other) {
        switch (order) {
            case LAY:
                return layStretch(number);
            case DROP:
                return dropStretch();
            case TRIM:
                return trimStretch(number);
            case SWAP:
                return swapStrikers(number, other);
            case ADD:
                return addStriker(number);
            case LIFT:
                return liftStriker(number);
            case FIRST:
                return putFirst(number);
            case WHEEL:
                return changeWheel(number);
            case FILL:
                return fillUp(number);
            default:
                return takeIdleAway();
        }
    }

    private int layStretch(int room) {
        int stretch = plan.stretchCount();
        if (stretch >= MOST_STRETCHES) {
            return -2;
        }
        plan.appendStretch(room);
        accounts[LAID]++;
        return current().marksBetween(plan.firstNumberOf(stretch), plan.lastNumberOf(stretch));
    }

    private int dropStretch() {
        if (plan.stretchCount() == 0) {
            return -2;
        }
        plan.removeStretch();
        return plan.lastNumber();
    }

    private int trimStretch(int room) {
        if (plan.stretchCount() == 0) {
            return -2;
        }
        if (plan.lastRoom() <= room) {
            return -3;
        }
        plan.removeStretch();
        plan.appendStretch(room);
        return plan.lastNumber();
    }

    private int swapStrikers(int d, int e) {
        int place = plan.placeOf(d);
        int other = plan.placeOf(e);
        if (place == NONE || other == NONE) {
            return -2;
        }
        Sieve earlier = current();
        plan.exchange(place, other);
        int many = 0;
        for (int number = 2; number <= earlier.lastNumber(); number++) {
            int owner = earlier.ownerOf(number);
            if (owner > Sieve.MARKED && plan.firstHit(number) != owner) {
                many++;
            }
        }
        return many;
    }

    private int addStriker(int d) {
        if (plan.placeOf(d) != NONE) {
            return -2;
        }
        if (plan.strikerCount() >= MOST_STRIKERS) {
            return -3;
        }
        int owned = current().countTaken(d);
        plan.appendStriker(d);
        accounts[ADDED]++;
        return owned;
    }

    private int liftStriker(int d) {
        int place = plan.placeOf(d);
        if (place == NONE) {
            return -2;
        }
        int back = countGiven(current(), place);
        plan.removeStriker(place);
        return back;
    }

    private int putFirst(int d) {
        int place = plan.placeOf(d);
        if (place == NONE) {
            return -2;
        }
        plan.moveToFront(place);
        return place;
    }

    private int changeWheel(int wheel) {
        int earlier = plan.wheelNow();
        plan.setWheel(wheel);
        return earlier;
    }

    private int fillUp(int many) {
        int added = 0;
        for (int turn = 0; turn < many && plan.strikerCount() < MOST_STRIKERS; turn++) {
            int d = plan.smallestMissing(plan.wheelNow());
            if (d == NONE) {
                break;
            }
            plan.appendStriker(d);
            added++;
        }
        accounts[ADDED] += added;
        return added;
    }

    // An idle striker owns nothing, so the others own the same without it, and from
    // the back no place of one that is still to come is moved.
    private int takeIdleAway() {
        Sieve now = current();
        int taken = 0;
        for (int striker = plan.strikerCount() - 1; striker >= 0; striker--) {
            if (now.smallestOwned(plan.dOf(striker)) == NONE) {
                plan.removeStriker(striker);
                taken++;
            }
        }
        return taken;
    }

    private void closeReading() {
        source.empty();
        positionOfError = reader.errorAt();
    }

    /** Arithmetic of numbers, wheel primes and strikes. */
    private static final class Wheels {
        private static final int[] PRIMES = {2, 3, 5, 7};
        private static final int[] PRODUCTS = {1, 2, 6, 30, 210};

        private Wheels() {
        }

        static int primeAt(int place) {
            return place < 0 || place >= PRIMES.length ? 1 : PRIMES[place];
        }

        static int product(int wheel) {
            return wheel < 0 || wheel >= PRODUCTS.length ? 1 : PRODUCTS[wheel];
        }

        /** The smallest wheel prime that divides a number, NONE without one. */
        static int smallestPrimeOf(int number, int wheel) {
            for (int place = 0; place < wheel && place < PRIMES.length; place++) {
                if (number % PRIMES[place] == 0) {
                    return PRIMES[place];
                }
            }
            return NONE;
        }

        static boolean isFree(int number, int wheel) {
            return smallestPrimeOf(number, wheel) == NONE;
        }

        // Of a number that is a wheel prime this one is the only wheel prime that divides it.
        static boolean isOnSpoke(int number, int wheel) {
            int prime = smallestPrimeOf(number, wheel);
            return prime == NONE || prime == number;
        }

        /** How many of the numbers 1 to a limit no wheel prime divides. */
        static int spokesUpTo(int limit, int wheel) {
            int many = 0;
            for (int number = 1; number <= limit; number++) {
                if (isFree(number, wheel)) {
                    many++;
                }
            }
            return many;
        }

        // As many multiples that follow one another as the product has numbers come upon a
        // spoke if D shares no wheel prime with it, and never if it does.
        static int strikeAbove(int last, int d, int wheel) {
            if (d < LEAST_D) {
                return NONE;
            }
            int number = Math.max(d * d, (last / d + 1) * d);
            int product = product(wheel);
            for (int step = 0; step < product; step++) {
                if (isOnSpoke(number, wheel)) {
                    return number;
                }
                number += d;
            }
            return NONE;
        }

        static boolean isPrime(int number) {
            for (int d = 2; d <= MOST_LAST && d * d <= number; d++) {
                if (number % d == 0) {
                    return false;
                }
            }
            return number >= 2;
        }
    }

    /** All that undoing restores: WHEEL, the stretches and the row of strikers. */
    private static final class Plan {
        private int wheel = 0;
        private int stretches = 0;
        private final int[] rooms = new int[MOST_STRETCHES];
        private int last = 1;
        private int strikers = 0;
        private final int[] ds = new int[MOST_STRIKERS];
        private int version = 0;

        Plan() {
        }

        void beginWith(int newWheel) {
            wheel = newWheel;
            stretches = 0;
            last = 1;
            strikers = 0;
            version++;
        }

        void takeOver(Plan other) {
            wheel = other.wheel;
            stretches = other.stretches;
            last = other.last;
            strikers = other.strikers;
            System.arraycopy(other.rooms, 0, rooms, 0, MOST_STRETCHES);
            System.arraycopy(other.ds, 0, ds, 0, MOST_STRIKERS);
            version++;
        }

        /** Another number after each change, so that what was built of the plan can tell that it is old. */
        int version() {
            return version;
        }

        int wheelNow() {
            return wheel;
        }

        void setWheel(int newWheel) {
            wheel = newWheel;
            version++;
        }

        int stretchCount() {
            return stretches;
        }

        int firstNumberOf(int stretch) {
            return 2 + roomAhead(stretch);
        }

        int lastNumberOf(int stretch) {
            return 1 + roomAhead(stretch + 1);
        }

        int lastNumber() {
            return last;
        }

        private int roomAhead(int stretch) {
            int room = 0;
            for (int index = 0; index < stretch && index < rooms.length; index++) {
                room += rooms[index];
            }
            return room;
        }

        int lastRoom() {
            return stretches < 1 || stretches > rooms.length ? 0 : rooms[stretches - 1];
        }

        void appendStretch(int room) {
            if (stretches >= 0 && stretches < rooms.length) {
                rooms[stretches] = room;
                stretches++;
                last += room;
                version++;
            }
        }

        void removeStretch() {
            int room = lastRoom();
            if (room > 0) {
                stretches--;
                last -= room;
                version++;
            }
        }

        int strikerCount() {
            return strikers;
        }

        int dOf(int striker) {
            return striker < 0 || striker >= strikers || striker >= ds.length ? NONE : ds[striker];
        }

        int placeOf(int d) {
            for (int striker = 0; striker < strikers && striker < ds.length; striker++) {
                if (ds[striker] == d) {
                    return striker;
                }
            }
            return NONE;
        }

        void appendStriker(int d) {
            if (strikers >= 0 && strikers < ds.length) {
                ds[strikers] = d;
                strikers++;
                version++;
            }
        }

        void removeStriker(int place) {
            if (place < 0 || place >= strikers) {
                return;
            }
            for (int index = place; index + 1 < strikers && index + 1 < ds.length; index++) {
                ds[index] = ds[index + 1];
            }
            strikers--;
            version++;
        }

        void exchange(int place, int other) {
            if (place < 0 || place >= ds.length || other < 0 || other >= ds.length) {
                return;
            }
            int d = ds[place];
            ds[place] = ds[other];
            ds[other] = d;
            version++;
        }

        void moveToFront(int place) {
            for (int index = Math.min(place, ds.length - 1); index > 0; index--) {
                exchange(index, index - 1);
            }
        }

        /** How many strikers, from one of the row on and up to ahead of another, strike a number that is on a spoke. */
        int countHits(int number, int from, int to) {
            int hits = 0;
            for (int striker = Math.max(from, 0); striker < to && striker < strikers && striker < ds.length;
                    striker++) {
                int d = ds[striker];
                if (d >= LEAST_D && number >= d * d && number % d == 0) {
                    hits++;
                }
            }
            return hits;
        }

        /** D of the first striker of the row that strikes a number that is on a spoke, NONE without one. */
        int firstHit(int number) {
            for (int striker = 0; striker < strikers && striker < ds.length; striker++) {
                int d = ds[striker];
                if (d >= LEAST_D && number >= d * d && number % d == 0) {
                    return d;
                }
            }
            return NONE;
        }

        private boolean isMissing(int number, int underWheel) {
            return Wheels.smallestPrimeOf(number, underWheel) == NONE
                    && placeOf(number) == NONE
                    && firstHit(number) == NONE;
        }

        int smallestMissing(int underWheel) {
            int last = lastNumber();
            for (int number = 2; number <= MOST_D && number * number <= last; number++) {
                if (isMissing(number, underWheel)) {
                    return number;
                }
            }
            return NONE;
        }

        int countMissing(int underWheel) {
            int last = lastNumber();
            int many = 0;
            for (int number = 2; number <= MOST_D && number * number <= last; number++) {
                if (isMissing(number, underWheel)) {
                    many++;
                }
            }
            return many;
        }
    }

    /** The laid numbers of a plan, their owners and the marks that are left. */
    private static final class Sieve {
        static final int MARKED = 0;
        static final int OFF_SPOKES = -1;
        static final int NOT_LAID = -2;

        private final int[] owners = new int[MOST_LAST + 1];
        private final int[] counts = new int[MOST_LAST + 1];
        private int last = 1;
        private int markCount = 0;
        private int spokeCount = 0;
        private int builtVersion = NONE;

        Sieve() {
        }

        boolean isBuiltFor(Plan plan) {
            return builtVersion == plan.version();
        }

        void build(Plan plan) {
            last = Math.min(plan.lastNumber(), MOST_LAST);
            for (int number = 2; number <= last; number++) {
                owners[number] = MARKED;
            }
            for (int place = 0; place < plan.wheelNow(); place++) {
                int prime = Wheels.primeAt(place);
                strikeOut(2 * prime, prime, OFF_SPOKES);
            }
            for (int striker = 0; striker < plan.strikerCount(); striker++) {
                int d = plan.dOf(striker);
                strikeOut(d * d, d, d);
            }
            countAll();
            builtVersion = plan.version();
        }

        private void strikeOut(int from, int step, int owner) {
            if (from < 2 || step < 2) {
                return;
            }
            for (int number = from; number <= last; number += step) {
                if (owners[number] == MARKED) {
                    owners[number] = owner;
                }
            }
        }

        private void countAll() {
            markCount = 0;
            spokeCount = 0;
            for (int number = 2; number <= last; number++) {
                if (owners[number] == MARKED) {
                    markCount++;
                }
                if (owners[number] != OFF_SPOKES) {
                    spokeCount++;
                }
                counts[number] = markCount;
            }
        }

        int lastNumber() {
            return last;
        }

        int markCount() {
            return markCount;
        }

        int spokeCount() {
            return spokeCount;
        }

        /** D of a number's owner, or MARKED, OFF_SPOKES or NOT_LAID. */
        int ownerOf(int number) {
            return number < 2 || number > last ? NOT_LAID : owners[number];
        }

        boolean isMark(int number) {
            return ownerOf(number) == MARKED;
        }

        int markAt(int place) {
            for (int number = 2; number <= last && place >= 0; number++) {
                if (counts[number] > place) {
                    return number;
                }
            }
            return NONE;
        }

        int marksUpTo(int number) {
            if (number < 2) {
                return 0;
            }
            return number >= last ? markCount : counts[number];
        }

        int marksBetween(int from, int to) {
            int low = Math.max(from, 2);
            return to < low ? 0 : marksUpTo(to) - marksUpTo(low - 1);
        }

        int markAbove(int number) {
            for (int above = Math.max(number, 1); above < last; above++) {
                if (owners[above + 1] == MARKED) {
                    return above + 1;
                }
            }
            return NONE;
        }

        int markBelow(int number) {
            for (int below = Math.min(number, last + 1); below > 2; below--) {
                if (owners[below - 1] == MARKED) {
                    return below - 1;
                }
            }
            return NONE;
        }

        int spokesBetween(int from, int to) {
            int many = 0;
            int high = Math.min(to, last);
            for (int number = Math.max(from, 2); number <= high; number++) {
                if (owners[number] != OFF_SPOKES) {
                    many++;
                }
            }
            return many;
        }

        int countStrikes(int d) {
            int many = 0;
            for (int number = d * d; d >= LEAST_D && number <= last; number += d) {
                if (owners[number] != OFF_SPOKES) {
                    many++;
                }
            }
            return many;
        }

        int countOwned(int d) {
            return countWithOwner(d, d);
        }

        /** The marks that a striker with a D would strike. */
        int countTaken(int d) {
            return countWithOwner(d, MARKED);
        }

        private int countWithOwner(int d, int owner) {
            int many = 0;
            for (int number = d * d; d >= LEAST_D && number <= last; number += d) {
                if (owners[number] == owner) {
                    many++;
                }
            }
            return many;
        }

        int smallestOwned(int d) {
            for (int number = d * d; d >= LEAST_D && number <= last; number += d) {
                if (owners[number] == d) {
                    return number;
                }
            }
            return NONE;
        }
    }

    /** The plans ahead of the most recent operations; on a full row a new one takes the place of the oldest. */
    private static final class History {
        private final Plan[] plans = new Plan[MOST_UNDO];
        private int oldest = 0;
        private int count = 0;

        History() {
            for (int index = 0; index < MOST_UNDO; index++) {
                plans[index] = new Plan();
            }
        }

        int count() {
            return count;
        }

        void forget() {
            count = 0;
        }

        void push(Plan plan) {
            plans[(oldest + count) % MOST_UNDO].takeOver(plan);
            if (count < MOST_UNDO) {
                count++;
            } else {
                oldest = (oldest + 1) % MOST_UNDO;
            }
        }

        void pop(Plan plan) {
            if (count > 0) {
                count--;
                plan.takeOver(plans[(oldest + count) % MOST_UNDO]);
            }
        }
    }

    /** The byte buffer and the token of it that is being read. */
    private static final class Source {
        private static final int END = 0;
        private static final int WORD = 1;
        private static final int NUMBER = 2;
        private static final int SEMICOLON = 3;
        private static final int INVALID = 4;
        // Above every range and far below an overflow by one more digit.
        private static final int TOO_LARGE = 1000000;

        private final byte[] bytes = new byte[BUFFER_BYTES];
        private int filled = 0;
        private int end = 0;
        private int position = 0;
        private int kind = END;
        private int start = 0;
        private int value = 0;

        Source() {
        }

        int filled() {
            return filled;
        }

        void empty() {
            filled = 0;
        }

        void appendFour(int four) {
            for (int shift = 24; shift >= 0; shift -= 8) {
                if (filled < bytes.length) {
                    bytes[filled] = (byte) (four >>> shift);
                    filled++;
                }
            }
        }

        void open(int length) {
            end = Math.min(length, filled);
            position = 0;
            advance();
        }

        void advance() {
            while (position < end && isBlank(byteAt(position))) {
                position++;
            }
            start = position;
            value = 0;
            if (position >= end) {
                kind = END;
            } else if (isLetter(byteAt(position))) {
                kind = WORD;
                skipLetters();
            } else if (isDigit(byteAt(position))) {
                kind = NUMBER;
                readDigits();
            } else {
                kind = byteAt(position) == ';' ? SEMICOLON : INVALID;
                position++;
            }
        }

        private void skipLetters() {
            while (position < end && isLetter(byteAt(position))) {
                position++;
            }
        }

        private void readDigits() {
            while (position < end && isDigit(byteAt(position))) {
                value = Math.min(value * 10 + byteAt(position) - '0', TOO_LARGE);
                position++;
            }
        }

        private int byteAt(int index) {
            return index < 0 || index >= bytes.length ? 0 : bytes[index] & 255;
        }

        private static boolean isBlank(int letter) {
            return letter == 32 || letter == 10;
        }

        private static boolean isLetter(int letter) {
            return letter >= 'a' && letter <= 'z';
        }

        private static boolean isDigit(int letter) {
            return letter >= '0' && letter <= '9';
        }

        int tokenStart() {
            return start;
        }

        int tokenValue() {
            return value;
        }

        boolean isEnd() {
            return kind == END;
        }

        boolean isNumber() {
            return kind == NUMBER;
        }

        boolean isSemicolon() {
            return kind == SEMICOLON;
        }

        boolean isWord(String word) {
            if (kind != WORD || position - start != word.length()) {
                return false;
            }
            for (int index = 0; index < word.length(); index++) {
                if (byteAt(start + index) != word.charAt(index)) {
                    return false;
                }
            }
            return true;
        }
    }

    /** Reads texts and scripts; each step tells whether the text is right so far, and keeps the first error. */
    private static final class Reader {
        private static final int NOT_ALLOWED = 1;
        private static final int OUT_OF_RANGE = 2;
        private static final int TWICE = 3;
        private static final int TOO_MANY = 4;

        private final Source source;
        private int error = 0;
        private int position = NONE;
        private int number = 0;

        Reader(Source source) {
            this.source = source;
        }

        /** The position of the error of the text that was read last, NONE without one. */
        int errorAt() {
            return position;
        }

        /** Reads a text into a plan; returns the error code, 0 without an error. */
        int readText(int length, Plan plan) {
            begin(length);
            if (takeWord("sieve") && takeNumber(0, MOST_WHEEL) && takeSemicolon()) {
                plan.beginWith(number);
                if (readStretches(plan) && readStrikers(plan) && !source.isEnd()) {
                    fail(NOT_ALLOWED);
                }
            }
            return error;
        }

        /** Reads a script; returns the error code, 0 without an error. */
        int readScript(int length, Script script) {
            begin(length);
            script.clear();
            boolean isRight = true;
            for (int many = 0; many <= MOST_ORDERS && isRight && !source.isEnd(); many++) {
                isRight = readOrder(script);
            }
            return error;
        }

        private void begin(int length) {
            error = 0;
            position = NONE;
            source.open(length);
        }

        private boolean fail(int code) {
            error = code;
            position = source.tokenStart();
            return false;
        }

        private boolean readStretches(Plan plan) {
            for (int many = 0; many <= MOST_STRETCHES && source.isWord("stretch"); many++) {
                if (many == MOST_STRETCHES) {
                    return fail(TOO_MANY);
                }
                source.advance();
                if (!takeNumber(1, MOST_ROOM) || !takeSemicolon()) {
                    return false;
                }
                plan.appendStretch(number);
            }
            return true;
        }

        private boolean readStrikers(Plan plan) {
            for (int many = 0; many <= MOST_STRIKERS && source.isWord("striker"); many++) {
                if (many == MOST_STRIKERS) {
                    return fail(TOO_MANY);
                }
                source.advance();
                if (source.isNumber() && plan.placeOf(source.tokenValue()) != NONE) {
                    return fail(TWICE);
                }
                if (!takeNumber(LEAST_D, MOST_D) || !takeSemicolon()) {
                    return false;
                }
                plan.appendStriker(number);
            }
            return true;
        }

        private Order orderHere() {
            for (int index = 0; index < Order.ALL.length; index++) {
                Order order = Order.ALL[index];
                if (order.isInScripts && source.isWord(order.word)) {
                    return order;
                }
            }
            return null;
        }

        private boolean readOrder(Script script) {
            Order order = orderHere();
            if (order == null) {
                return fail(NOT_ALLOWED);
            }
            if (script.count() >= MOST_ORDERS) {
                return fail(TOO_MANY);
            }
            source.advance();
            number = 0;
            if (order.numbers > 0 && !takeNumber(order.least, order.most)) {
                return false;
            }
            int firstNumber = number;
            if (order.numbers > 1 && !takeNumber(order.least, order.most)) {
                return false;
            }
            if (!takeSemicolon()) {
                return false;
            }
            script.append(order, firstNumber, number);
            return true;
        }

        private boolean takeWord(String word) {
            if (!source.isWord(word)) {
                return fail(NOT_ALLOWED);
            }
            source.advance();
            return true;
        }

        private boolean takeNumber(int least, int most) {
            if (!source.isNumber()) {
                return fail(NOT_ALLOWED);
            }
            number = source.tokenValue();
            if (number < least || number > most) {
                return fail(OUT_OF_RANGE);
            }
            source.advance();
            return true;
        }

        private boolean takeSemicolon() {
            if (!source.isSemicolon()) {
                return fail(NOT_ALLOWED);
            }
            source.advance();
            return true;
        }
    }

    /** The operations but play, each with its word in scripts and the range of its numbers. */
    private enum Order {
        LAY("lay", 1, 1, MOST_ROOM, true),
        DROP("drop", 0, 0, 0, true),
        ADD("add", 1, LEAST_D, MOST_D, true),
        LIFT("lift", 1, LEAST_D, MOST_D, true),
        FIRST("first", 1, LEAST_D, MOST_D, true),
        SWAP("swap", 2, LEAST_D, MOST_D, true),
        WHEEL("wheel", 1, 0, MOST_WHEEL, true),
        FILL("fill", 1, 1, MOST_STRIKERS, true),
        TRIM("trim", 1, 1, MOST_ROOM - 1, false),
        TIDY("tidy", 0, 0, 0, false);

        private static final Order[] ALL = values();

        private final String word;
        private final int numbers;
        private final int least;
        private final int most;
        private final boolean isInScripts;

        Order(String word, int numbers, int least, int most, boolean isInScripts) {
            this.word = word;
            this.numbers = numbers;
            this.least = least;
            this.most = most;
            this.isInScripts = isInScripts;
        }

        boolean isInRange(int number, int other) {
            return (numbers < 1 || number >= least && number <= most)
                    && (numbers < 2 || other >= least && other <= most);
        }
    }

    /** The orders of a script that has been read. */
    private static final class Script {
        private final Order[] orders = new Order[MOST_ORDERS];
        private final int[] numbers = new int[MOST_ORDERS];
        private final int[] others = new int[MOST_ORDERS];
        private int count = 0;

        Script() {
        }

        int count() {
            return count;
        }

        void clear() {
            count = 0;
        }

        void append(Order order, int number, int other) {
            if (count < MOST_ORDERS) {
                orders[count] = order;
                numbers[count] = number;
                others[count] = other;
                count++;
            }
        }

        private boolean isThere(int index) {
            return index >= 0 && index < count;
        }

        Order orderAt(int index) {
            return isThere(index) ? orders[index] : null;
        }

        int numberAt(int index) {
            return isThere(index) ? numbers[index] : 0;
        }

        int otherAt(int index) {
            return isThere(index) ? others[index] : 0;
        }
    }

    /** The text of format. */
    private static final class Sheet {
        // The longest text: as many marks of four digits as a stretch has room, each with a byte behind it.
        private final byte[] bytes = new byte[MOST_ROOM * 5];
        private int length = 0;

        Sheet() {
        }

        int length() {
            return length;
        }

        void erase() {
            length = 0;
        }

        void put(int letter) {
            if (length < bytes.length) {
                bytes[length] = (byte) letter;
                length++;
            }
        }

        void putNumber(int number) {
            for (int unit = 1000; unit > 0; unit /= 10) {
                if (number >= unit) {
                    put('0' + number / unit % 10);
                }
            }
        }

        int byteAt(int index) {
            return index < 0 || index >= length ? NONE : bytes[index];
        }
    }
}
