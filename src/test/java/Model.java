import java.util.ArrayDeque;
import java.util.ArrayList;
import java.util.Collections;
import java.util.List;
import java.util.NoSuchElementException;

/** The document's words, one by one and slowly, to compare the program with. */
final class Model {
    private static final int[] PRIMES = {2, 3, 5, 7};

    private record State(int wheel, List<Integer> rooms, List<Integer> row) {
        State copy() {
            return new State(wheel, new ArrayList<>(rooms), new ArrayList<>(row));
        }
    }

    private State state = new State(1, new ArrayList<>(List.of(29)), new ArrayList<>(List.of(3)));
    private State snapshot = null;
    private final ArrayDeque<State> history = new ArrayDeque<>();
    private final int[] accounts = new int[5];
    private String text = "";

    // ---- terms

    int last() {
        int last = 1;
        for (int room : state.rooms()) {
            last += room;
        }
        return last;
    }

    private boolean isLaid(int number) {
        return number >= 2 && number <= last();
    }

    private boolean isOnSpoke(int number) {
        for (int index = 0; index < state.wheel(); index++) {
            if (number != PRIMES[index] && number % PRIMES[index] == 0) {
                return false;
            }
        }
        return true;
    }

    private boolean strikes(int d, int number) {
        return isOnSpoke(number) && number % d == 0 && number >= d * d;
    }

    private int owner(int number) {
        for (int d : state.row()) {
            if (strikes(d, number)) {
                return d;
            }
        }
        return 0;
    }

    private boolean wouldBeMark(int number) {
        return isOnSpoke(number) && owner(number) == 0;
    }

    private boolean isMark(long number) {
        return number >= 2 && number <= last() && wouldBeMark((int) number);
    }

    private List<Integer> marks() {
        List<Integer> marks = new ArrayList<>();
        int last = last();
        for (int number = 2; number <= last; number++) {
            if (wouldBeMark(number)) {
                marks.add(number);
            }
        }
        return marks;
    }

    private List<Integer> missingOnes() {
        List<Integer> missing = new ArrayList<>();
        List<Integer> wheelPrimes = new ArrayList<>();
        for (int index = 0; index < state.wheel(); index++) {
            wheelPrimes.add(PRIMES[index]);
        }
        int last = last();
        for (int number : marks()) {
            if (!state.row().contains(number) && !wheelPrimes.contains(number) && number * number <= last) {
                missing.add(number);
            }
        }
        return missing;
    }

    private int product() {
        return new int[] {1, 2, 6, 30, 210}[state.wheel()];
    }

    private boolean isCoprime(int number) {
        for (int index = 0; index < state.wheel(); index++) {
            if (number % PRIMES[index] == 0) {
                return false;
            }
        }
        return true;
    }

    private List<Integer> spokes() {
        List<Integer> spokes = new ArrayList<>();
        for (int number = 1; number <= product(); number++) {
            if (isCoprime(number)) {
                spokes.add(number);
            }
        }
        return spokes;
    }

    private static boolean isPrime(int number) {
        for (int d = 2; d < number; d++) {
            if (number % d == 0) {
                return false;
            }
        }
        return number > 1;
    }

    private List<Integer> struckBy(int d) {
        List<Integer> struck = new ArrayList<>();
        int last = last();
        for (int number = 2; number <= last; number++) {
            if (strikes(d, number)) {
                struck.add(number);
            }
        }
        return struck;
    }

    private List<Integer> ownedBy(int d) {
        List<Integer> owned = struckBy(d);
        owned.removeIf(number -> owner(number) != d);
        return owned;
    }

    private static void range(boolean isRight) {
        if (!isRight) {
            throw new IllegalArgumentException();
        }
    }

    private static void there(boolean isThere) {
        if (!isThere) {
            throw new NoSuchElementException();
        }
    }

    private int dOf(int striker) {
        there(striker >= 0 && striker < state.row().size());
        return state.row().get(striker);
    }

    // ---- what there is

    int size(int what) {
        range(what >= 0 && what <= 9);
        int last = last();
        switch (what) {
            case 0: return state.wheel();
            case 1: return state.rooms().size();
            case 2: return last;
            case 3: return state.row().size();
            case 4: return marks().size();
            case 5: return spokesIn(2, last);
            case 6: return product();
            case 7: return spokes().size();
            case 8: return missingOnes().size();
            default:
                int idle = 0;
                for (int d : state.row()) {
                    idle += ownedBy(d).isEmpty() ? 1 : 0;
                }
                return idle;
        }
    }

    int account(int what) {
        range(what >= 0 && what <= 4);
        return accounts[what];
    }

    private int spokesIn(int from, int to) {
        int many = 0;
        for (int number = from; number <= to; number++) {
            many += isOnSpoke(number) ? 1 : 0;
        }
        return many;
    }

    private int firstOf(int stretch) {
        int from = 2;
        for (int index = 0; index < stretch; index++) {
            from += state.rooms().get(index);
        }
        return from;
    }

    int stretch(int stretch, int what) {
        there(stretch >= 0 && stretch < state.rooms().size());
        range(what >= 0 && what <= 5);
        int from = firstOf(stretch);
        int to = from + state.rooms().get(stretch) - 1;
        List<Integer> marks = marks();
        marks.removeIf(mark -> mark < from || mark > to);
        switch (what) {
            case 0: return from;
            case 1: return to;
            case 2: return marks.size();
            case 3: return spokesIn(from, to);
            case 4: return marks.isEmpty() ? -1 : marks.get(0);
            default: return marks.isEmpty() ? -1 : marks.get(marks.size() - 1);
        }
    }

    int striker(int striker, int what) {
        int d = dOf(striker);
        range(what >= 0 && what <= 5);
        switch (what) {
            case 0: return d;
            case 1: return struckBy(d).size();
            case 2: return ownedBy(d).size();
            case 3:
                for (int number = last() + 1; number < 60000; number++) {
                    if (strikes(d, number)) {
                        return number;
                    }
                }
                return -1;
            case 4: return isPrime(d) ? 1 : 0;
            default: return ownedBy(d).isEmpty() ? -1 : ownedBy(d).get(0);
        }
    }

    int find(int d) {
        return state.row().indexOf(d);
    }

    int at(int number) {
        if (!isLaid(number)) {
            return 3;
        }
        if (!isOnSpoke(number)) {
            return 1;
        }
        return owner(number) != 0 ? 2 : 0;
    }

    int cause(int number) {
        switch (at(number)) {
            case 0: return 0;
            case 1: return number % 2 == 0 ? 2 : number % 3 == 0 ? 3 : number % 5 == 0 ? 5 : 7;
            case 2: return owner(number);
            default: return last();
        }
    }

    int struck(int number) {
        there(isLaid(number));
        int many = 0;
        for (int d : state.row()) {
            many += strikes(d, number) ? 1 : 0;
        }
        return many;
    }

    int spokeAt(int place) {
        return place < 0 || place >= spokes().size() ? -1 : spokes().get(place);
    }

    int spokeOf(int number) {
        if (number < 1) {
            return -1;
        }
        int left = number % product();
        return spokes().indexOf(left == 0 ? product() : left);
    }

    private List<Integer> common(int striker, int other) {
        List<Integer> common = struckBy(dOf(striker));
        common.retainAll(struckBy(dOf(other)));
        return common;
    }

    int both(int striker, int other) {
        return common(striker, other).size();
    }

    int meet(int striker, int other) {
        List<Integer> common = common(striker, other);
        return common.isEmpty() ? -1 : common.get(0);
    }

    // ---- marks

    int upTo(int number) {
        return between(Integer.MIN_VALUE, number);
    }

    int mark(int place) {
        List<Integer> marks = marks();
        return place < 0 || place >= marks.size() ? -1 : marks.get(place);
    }

    int between(int from, int to) {
        int many = 0;
        for (int mark : marks()) {
            many += mark >= from && mark <= to ? 1 : 0;
        }
        return many;
    }

    private List<Integer> divisorsOf(int number) {
        List<Integer> divisors = marks();
        divisors.removeIf(mark -> number < 2 || number % mark != 0);
        return divisors;
    }

    int divisor(int number) {
        return divisorsOf(number).isEmpty() ? -1 : divisorsOf(number).get(0);
    }

    int divisors(int number) {
        return divisorsOf(number).size();
    }

    int longest() {
        StringBuilder signs = new StringBuilder();
        int last = last();
        for (int number = 2; number <= last; number++) {
            if (isOnSpoke(number)) {
                signs.append(owner(number) == 0 ? 'm' : 's');
            }
        }
        int longest = 0;
        for (String run : signs.toString().split("s")) {
            longest = Math.max(longest, run.length());
        }
        return longest;
    }

    int chain(int number) {
        return isMark(number) ? 1 + chain(2 * number + 1) : 0;
    }

    int turn(int turn) {
        range(turn >= 0 && turn <= 5000);
        return between(product() * turn + 1, product() * (turn + 1));
    }

    int next(int number, boolean isBelow) {
        int best = -1;
        for (int mark : marks()) {
            if (isBelow && mark < number || !isBelow && mark > number && best == -1) {
                best = mark;
            }
        }
        return best;
    }

    private List<Integer> differences() {
        List<Integer> marks = marks();
        List<Integer> differences = new ArrayList<>();
        for (int index = 1; index < marks.size(); index++) {
            differences.add(marks.get(index) - marks.get(index - 1));
        }
        return differences;
    }

    int gaps(int gap) {
        range(gap >= 1 && gap <= 400);
        return Collections.frequency(differences(), gap);
    }

    int widest() {
        return differences().isEmpty() ? 0 : Collections.max(differences());
    }

    int widestAt() {
        return differences().isEmpty() ? -1 : marks().get(differences().indexOf(widest()));
    }

    int twins(int gap) {
        range(gap >= 1 && gap <= 400);
        int many = 0;
        for (int mark : marks()) {
            many += isMark(mark + gap) ? 1 : 0;
        }
        return many;
    }

    private List<Integer> leastParts(int number) {
        List<Integer> parts = marks();
        parts.removeIf(part -> (long) part > (long) number - part || !isMark((long) number - part));
        return parts;
    }

    int sums(int number) {
        return leastParts(number).size();
    }

    int leastOf(int number) {
        return leastParts(number).isEmpty() ? -1 : leastParts(number).get(0);
    }

    int thickest(int many) {
        range(many >= 1 && many <= 400);
        List<Integer> marks = marks();
        int most = 0;
        for (int mark : marks) {
            int inside = 0;
            for (int other : marks) {
                inside += other >= mark && other < mark + many ? 1 : 0;
            }
            most = Math.max(most, inside);
        }
        return most;
    }

    // ---- what is right

    private List<Integer> wrongOnes() {
        List<Integer> wrong = marks();
        wrong.removeIf(Model::isPrime);
        return wrong;
    }

    int wrong() {
        return wrongOnes().size();
    }

    int firstWrong() {
        return wrongOnes().isEmpty() ? -1 : wrongOnes().get(0);
    }

    int gap() {
        return 0;
    }

    int missing() {
        return missingOnes().isEmpty() ? -1 : missingOnes().get(0);
    }

    // ---- what would be

    int takes(int d) {
        range(d >= 2 && d <= 120);
        int many = 0;
        for (int mark : marks()) {
            many += strikes(d, mark) ? 1 : 0;
        }
        return many;
    }

    int gives(int striker) {
        dOf(striker);
        int ahead = marks().size();
        State kept = state.copy();
        state.row().remove(striker);
        int given = marks().size() - ahead;
        state = kept;
        return given;
    }

    int best() {
        int best = -1;
        int most = 0;
        for (int d = 120; d >= 2; d--) {
            int taken = takes(d);
            if (taken > 0 && taken >= most) {
                most = taken;
                best = d;
            }
        }
        return best;
    }

    int marksNext(int room) {
        range(room >= 1 && room <= 400);
        int ahead = marks().size();
        state.rooms().add(room);
        int next = marks().size() - ahead;
        state.rooms().remove(state.rooms().size() - 1);
        return next;
    }

    int leastWheel() {
        State kept = state;
        int least = -1;
        for (int wheel = 4; wheel >= 0; wheel--) {
            state = new State(wheel, kept.rooms(), kept.row());
            if (missingOnes().isEmpty()) {
                least = wheel;
            }
        }
        state = kept;
        return least;
    }

    // ---- measures

    int shareBits() {
        return last() == 1 ? 0 : Float.floatToIntBits((float) marks().size() / (float) (last() - 1));
    }

    double useful() {
        int owned = 0;
        int strikes = 0;
        for (int d : state.row()) {
            owned += ownedBy(d).size();
            strikes += struckBy(d).size();
        }
        return strikes == 0 ? 1.0 : (double) owned / (double) strikes;
    }

    float spokeShare() {
        return last() == 1 ? 0.0f : (float) spokesIn(2, last()) / (float) (last() - 1);
    }

    // ---- operations; each one's core is the order of a script

    int lay(int room) {
        range(room >= 1 && room <= 400);
        return recorded(new Order("lay", room, 0));
    }

    int drop() {
        return recorded(new Order("drop", 0, 0));
    }

    int trim(int room) {
        range(room >= 1 && room <= 399);
        return recorded(new Order("trim", room, 0));
    }

    int swap(int d, int e) {
        range(d >= 2 && d <= 120 && e >= 2 && e <= 120);
        return recorded(new Order("swap", d, e));
    }

    int add(int d) {
        range(d >= 2 && d <= 120);
        return recorded(new Order("add", d, 0));
    }

    int lift(int d) {
        range(d >= 2 && d <= 120);
        return recorded(new Order("lift", d, 0));
    }

    int first(int d) {
        range(d >= 2 && d <= 120);
        return recorded(new Order("first", d, 0));
    }

    int wheel(int wheel) {
        range(wheel >= 0 && wheel <= 4);
        return recorded(new Order("wheel", wheel, 0));
    }

    int fill(int many) {
        range(many >= 1 && many <= 30);
        return recorded(new Order("fill", many, 0));
    }

    int tidy() {
        return recorded(new Order("tidy", 0, 0));
    }

    record Order(String name, int a, int b) {
    }

    /** A script that has been read: what the program's play answers for its text. */
    int play(List<Order> script) {
        record(state.copy());
        int done = 0;
        for (Order order : script) {
            if (obey(order) < 0) {
                break;
            }
            done++;
        }
        return done;
    }

    private int recorded(Order order) {
        State ahead = state.copy();
        int answer = obey(order);
        if (answer >= 0) {
            record(ahead);
        }
        return answer;
    }

    private void record(State ahead) {
        history.addLast(ahead);
        if (history.size() > 8) {
            history.removeFirst();
        }
    }

    private int obey(Order order) {
        int answer = carryOut(order);
        accounts[answer < 0 ? 1 : 0]++;
        return answer;
    }

    private int carryOut(Order order) {
        List<Integer> row = state.row();
        List<Integer> rooms = state.rooms();
        int a = order.a();
        int place = row.indexOf(a);
        int ahead = marks().size();
        switch (order.name()) {
            case "lay":
                if (rooms.size() == 12) {
                    return -2;
                }
                rooms.add(a);
                accounts[3]++;
                return stretch(rooms.size() - 1, 2);
            case "drop":
                if (rooms.isEmpty()) {
                    return -2;
                }
                rooms.remove(rooms.size() - 1);
                return last();
            case "trim":
                if (rooms.isEmpty()) {
                    return -2;
                }
                if (rooms.get(rooms.size() - 1) <= a) {
                    return -3;
                }
                rooms.set(rooms.size() - 1, a);
                return last();
            case "swap":
                return swapThem(place, row.indexOf(order.b()));
            case "add":
                if (place >= 0) {
                    return -2;
                }
                if (row.size() == 30) {
                    return -3;
                }
                row.add(a);
                accounts[4]++;
                return ownedBy(a).size();
            case "lift":
                if (place < 0) {
                    return -2;
                }
                row.remove(place);
                return marks().size() - ahead;
            case "first":
                if (place < 0) {
                    return -2;
                }
                row.add(0, row.remove(place));
                return place;
            case "wheel":
                int earlier = state.wheel();
                state = new State(a, rooms, row);
                return earlier;
            case "fill":
                int added = 0;
                while (added < a && row.size() < 30 && missing() != -1) {
                    row.add(missing());
                    added++;
                }
                accounts[4] += added;
                return added;
            default:
                return tidyUp();
        }
    }

    private int swapThem(int place, int other) {
        if (place < 0 || other < 0) {
            return -2;
        }
        List<Integer> ahead = owners();
        Collections.swap(state.row(), place, other);
        List<Integer> behind = owners();
        int many = 0;
        for (int index = 0; index < ahead.size(); index++) {
            many += ahead.get(index).equals(behind.get(index)) ? 0 : 1;
        }
        return many;
    }

    private List<Integer> owners() {
        List<Integer> owners = new ArrayList<>();
        int last = last();
        for (int number = 2; number <= last; number++) {
            owners.add(owner(number));
        }
        return owners;
    }

    private int tidyUp() {
        int taken = 0;
        for (int index = 0; index < state.row().size();) {
            if (ownedBy(state.row().get(index)).isEmpty()) {
                state.row().remove(index);
                taken++;
            } else {
                index++;
            }
        }
        return taken;
    }

    // ---- texts, undo

    /** A text that has been read: what load makes of it. */
    int load(int wheel, List<Integer> rooms, List<Integer> row) {
        state = new State(wheel, new ArrayList<>(rooms), new ArrayList<>(row));
        history.clear();
        snapshot = null;
        return last();
    }

    int format(int stretch) {
        int from = stretch(stretch, 0);
        int to = stretch(stretch, 1);
        StringBuilder runs = new StringBuilder();
        for (int number = from; number <= to; number++) {
            if (isOnSpoke(number)) {
                runs.append(owner(number) != 0 ? " " : number + ".");
            }
        }
        text = runs.toString().replaceAll("\\. +", " ").replaceAll("^ +| +$|\\.$", "");
        return text.length();
    }

    int formattedByte(int index) {
        return index < 0 || index >= text.length() ? -1 : text.charAt(index);
    }

    int undoCount() {
        return history.size();
    }

    int undo() {
        if (history.isEmpty()) {
            return -1;
        }
        state = history.removeLast();
        accounts[2]++;
        return history.size();
    }

    void saveSnapshot() {
        snapshot = state.copy();
    }

    boolean restoreSnapshot() {
        if (snapshot == null) {
            return false;
        }
        state = snapshot.copy();
        history.clear();
        return true;
    }
}
