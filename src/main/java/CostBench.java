import java.util.Arrays;
import java.util.NoSuchElementException;

/** A bench of six machines with costs; DOC.md tells, promise by promise, what each call answers. */
public final class CostBench {
    public static final int NONE = -1;

    private static final int SLOTS = 6;
    private static final int MOST_STATES = 40;
    private static final int MOST_ARCS = 120;
    private static final int MOST_COST = 1000000;
    private static final int LETTERS = 4;
    private static final int SILENT = 0;
    private static final int TAPE_BYTES = 400;
    private static final int WORD_LETTERS = 20;
    private static final int ASKED_LETTERS = 8;
    private static final int ASKED_ARCS = 30;
    private static final long MOST_PATHS = 1000000000000L;
    private static final int COUPLES = MOST_STATES * MOST_STATES;

    private final Machine[] slots = new Machine[SLOTS];
    private final Machine made = new Machine();
    private final Tape tape = new Tape();
    private final History history = new History();
    private final Reach reach = new Reach();
    private final Maker maker = new Maker(reach);
    private final Joiner joiner = new Joiner();
    private final Pairing pairing = new Pairing();
    private final WordTree tree = new WordTree(reach);
    private final Couples couples = new Couples();
    private final int[] refused = new int[3];
    private int faultPlace = NONE;
    // What couples and tree still hold an answer for; NONE once a machine has changed.
    private int couplesSlot = NONE;
    private int apartFirst = NONE;
    private int apartSecond = NONE;

    public CostBench() {
        for (int s = 0; s < SLOTS; s++) {
            slots[s] = new Machine();
        }
    }

    public int feed(int a, int b, int c, int d, int e) {
        return tape.addNumbers(a, b, c, d, e);
    }

    public int text(int slot, int n) throws NoSuchElementException, IllegalArgumentException {
        checkSlot(slot);
        checkValue(n, 0, tape.count);
        boolean good = tape.readMachine(n, made);
        faultPlace = tape.faultAt;
        if (good) {
            putMade(slot);
        }
        tape.count = 0;
        return good ? slots[slot].arcs : tape.faultKind - 10;
    }

    public int fault() {
        return faultPlace;
    }

    public int make(int what, int slot, int to)
            throws NoSuchElementException, IllegalArgumentException, IllegalStateException {
        checkSlot(slot);
        checkSlot(to);
        checkValue(what, 0, 7);
        Machine given = slots[slot];
        checkFit((what != 4 || given.isAcceptor()) && (what != 5 || given.isPlain()));
        maker.build(what, given, made);
        checkFit(!made.tooLarge);
        putMade(to);
        return slots[to].states;
    }

    public int join(int what, int first, int second, int to)
            throws NoSuchElementException, IllegalArgumentException, IllegalStateException {
        checkSlot(first);
        checkSlot(second);
        checkSlot(to);
        checkValue(what, 8, 10);
        joiner.build(what, slots[first], slots[second], made);
        checkFit(!made.tooLarge);
        putMade(to);
        return slots[to].states;
    }

    public int undo() {
        if (history.count == 0) {
            return NONE;
        }
        history.takeBack(slots, tape);
        forgetAnswers();
        return history.count;
    }

    public int told(int slot, int what) throws NoSuchElementException, IllegalArgumentException {
        checkSlot(slot);
        checkValue(what, 0, 10);
        Machine m = slots[slot];
        switch (what) {
            case 0: return m.states;
            case 1: return m.arcs;
            case 2: return m.startCost;
            case 3: return m.isAcceptor() ? 1 : 0;
            case 4: return m.isPlain() ? 1 : 0;
            case 5: return m.isOneWay() ? 1 : 0;
            case 6: return m.countEndings();
            case 7: return m.countSilent();
            case 8: return reach.countUseful(m);
            case 9: return tape.count;
            default: return history.count;
        }
    }

    public int arc(int slot, int arc, int what) throws NoSuchElementException, IllegalArgumentException {
        checkSlot(slot);
        Machine m = slots[slot];
        checkThere(arc, m.arcs);
        checkValue(what, 0, 4);
        switch (what) {
            case 0: return m.from[arc];
            case 1: return m.to[arc];
            case 2: return m.in[arc];
            case 3: return m.out[arc];
            default: return m.cost[arc];
        }
    }

    public int last(int slot, int state) throws NoSuchElementException {
        checkSlot(slot);
        checkThere(state, slots[slot].states);
        return slots[slot].ending[state];
    }

    public int least(int slot) throws NoSuchElementException {
        checkSlot(slot);
        reach.measure(slots[slot]);
        int rest = reach.costFrom(0);
        return rest == NONE ? NONE : slots[slot].startCost + rest;
    }

    public int path(int slot, int k) throws NoSuchElementException {
        checkSlot(slot);
        Machine m = slots[slot];
        reach.measure(m);
        int arcs = reach.arcsFrom(0);
        if (k < NONE || k >= arcs) {
            return NONE;
        }
        return k == NONE ? arcs : reach.arcOfLeast(m, k);
    }

    public int word(int slot, int n) throws NoSuchElementException, IllegalArgumentException {
        checkSlot(slot);
        checkValue(n, 0, tape.count);
        int place = pairing.readWord(tape, n);
        return answerTape(place, place == NONE ? pairing.costOf(slots[slot], false) : NONE);
    }

    public int couple(int slot, int n) throws NoSuchElementException, IllegalArgumentException {
        checkSlot(slot);
        checkValue(n, 0, tape.count);
        int place = pairing.readCouple(tape, n);
        return answerTape(place, place == NONE ? pairing.costOf(slots[slot], true) : NONE);
    }

    public int words(int slot, int letters) throws NoSuchElementException, IllegalArgumentException {
        checkSlot(slot);
        checkValue(letters, 0, ASKED_LETTERS);
        return tree.countWords(slots[slot], letters);
    }

    public int worst(int slot, int letters, int what) throws NoSuchElementException, IllegalArgumentException {
        checkSlot(slot);
        checkValue(letters, 0, ASKED_LETTERS);
        checkValue(what, 0, 1);
        return what == 0 ? tree.leastCost(slots[slot], letters) : tree.greatestCost(slots[slot], letters);
    }

    public long paths(int slot, int arcs) throws NoSuchElementException, IllegalArgumentException {
        checkSlot(slot);
        checkValue(arcs, 0, ASKED_ARCS);
        return reach.countPaths(slots[slot], arcs);
    }

    public int apart(int first, int second, int k) throws NoSuchElementException {
        checkSlot(first);
        checkSlot(second);
        if (first != apartFirst || second != apartSecond) {
            tree.findApart(slots[first], slots[second]);
            apartFirst = first;
            apartSecond = second;
        }
        if (k < NONE || k >= tree.apartLetters) {
            return NONE;
        }
        return k == NONE ? tree.apartLetters : tree.apartWord[k];
    }

    public int twins(int slot) throws NoSuchElementException, IllegalStateException {
        checkSlot(slot);
        lookAtCouples(slot);
        return couples.areTwins ? 1 : 0;
    }

    public long parting(int slot, int what)
            throws NoSuchElementException, IllegalArgumentException, IllegalStateException {
        checkSlot(slot);
        checkValue(what, 0, 4);
        lookAtCouples(slot);
        if (couples.areTwins) {
            return NONE;
        }
        switch (what) {
            case 0: return couples.parted / MOST_STATES;
            case 1: return couples.parted % MOST_STATES;
            case 2: return couples.uLetters;
            case 3: return couples.vLetters;
            default: return couples.vPays;
        }
    }

    public int partingAt(int slot, int which, int k)
            throws NoSuchElementException, IllegalArgumentException, IllegalStateException {
        checkSlot(slot);
        checkValue(which, 0, 1);
        lookAtCouples(slot);
        int letters = which == 0 ? couples.uLetters : couples.vLetters;
        if (couples.areTwins || k < 0 || k >= letters) {
            return NONE;
        }
        return which == 0 ? couples.uWord[k] : couples.vWord[k];
    }

    public int ahead(int slot, int state) throws NoSuchElementException {
        checkSlot(slot);
        checkThere(state, slots[slot].states);
        reach.measure(slots[slot]);
        return reach.costFrom(state);
    }

    public int merged(int slot, int state) throws NoSuchElementException {
        checkSlot(slot);
        checkThere(state, slots[slot].states);
        maker.sortKinds(slots[slot]);
        return maker.kind[state];
    }

    public boolean alike(int first, int second) throws NoSuchElementException {
        checkSlot(first);
        checkSlot(second);
        return slots[first].isBuiltAs(slots[second]);
    }

    public long print() {
        long sum = 0;
        for (int s = 0; s < SLOTS; s++) {
            Machine m = slots[s];
            sum = 31 * sum + m.states;
            sum = 31 * sum + m.startCost;
            for (int a = 0; a < m.arcs; a++) {
                sum = 31 * sum + m.cost[a];
            }
        }
        return sum;
    }

    public int status(int what) {
        return what < 0 || what >= refused.length ? NONE : refused[what];
    }

    private void checkSlot(int slot) {
        checkThere(slot, SLOTS);
    }

    private void checkThere(int number, int howMany) {
        if (number < 0 || number >= howMany) {
            refused[0]++;
            throw new NoSuchElementException("no such slot, state or arc");
        }
    }

    private void checkValue(int value, int low, int high) {
        if (value < low || value > high) {
            refused[1]++;
            throw new IllegalArgumentException("a value outside its range");
        }
    }

    private void checkFit(boolean fit) {
        if (!fit) {
            refused[2]++;
            throw new IllegalStateException("the machine does not allow it, or what is made is too large");
        }
    }

    private void putMade(int slot) {
        made.sortArcs();
        history.keep(slot, slots[slot], tape);
        slots[slot].copyFrom(made);
        forgetAnswers();
    }

    private void forgetAnswers() {
        couplesSlot = NONE;
        apartFirst = NONE;
        apartSecond = NONE;
    }

    private int answerTape(int place, int answer) {
        tape.count = 0;
        faultPlace = place;
        return place == NONE ? answer : -9;
    }

    private void lookAtCouples(int slot) {
        checkFit(slots[slot].isPlain());
        if (couplesSlot != slot) {
            couples.examine(slots[slot]);
            couplesSlot = slot;
        }
    }

    /** A machine, or one that is being made: then tooLarge tells that a limit was met. */
    private static final class Machine {
        int states = 1;
        int startCost;
        int arcs;
        boolean tooLarge;
        final int[] ending = new int[MOST_STATES];
        final int[] from = new int[MOST_ARCS];
        final int[] to = new int[MOST_ARCS];
        final int[] in = new int[MOST_ARCS];
        final int[] out = new int[MOST_ARCS];
        final int[] cost = new int[MOST_ARCS];
        // The arcs of state s, in order: leaving[leavingAt[s]] up to leaving[leavingAt[s + 1]].
        final int[] leavingAt = new int[MOST_STATES + 1];
        final int[] leaving = new int[MOST_ARCS];
        final int[] comingAt = new int[MOST_STATES + 1];
        final int[] coming = new int[MOST_ARCS];

        Machine() {
            Arrays.fill(ending, NONE);
        }

        void begin(int howMany, int startsWith) {
            tooLarge = howMany > MOST_STATES || startsWith > MOST_COST;
            states = Math.min(howMany, MOST_STATES);
            startCost = startsWith;
            arcs = 0;
            Arrays.fill(ending, NONE);
        }

        /** The number of a new state; NONE if it would be one too many. */
        int addState() {
            if (states >= MOST_STATES) {
                tooLarge = true;
                return NONE;
            }
            states++;
            return states - 1;
        }

        void addArc(int p, int q, int reads, int writes, int costs) {
            if (arcs >= MOST_ARCS || p < 0 || q < 0 || p >= states || q >= states) {
                tooLarge = true;
                return;
            }
            from[arcs] = p;
            to[arcs] = q;
            in[arcs] = reads;
            out[arcs] = writes;
            setCost(arcs, costs);
            arcs++;
        }

        void setCost(int a, int costs) {
            tooLarge = tooLarge || costs > MOST_COST;
            cost[a] = costs;
        }

        void setStartCost(int costs) {
            tooLarge = tooLarge || costs > MOST_COST;
            startCost = costs;
        }

        void setEnding(int state, int costs) {
            if (state < 0 || state >= states || costs > MOST_COST) {
                tooLarge = true;
                return;
            }
            ending[state] = costs;
        }

        void copyArcs(Machine other, int shift) {
            for (int a = 0; a < other.arcs; a++) {
                addArc(other.from[a] + shift, other.to[a] + shift, other.in[a], other.out[a], other.cost[a]);
            }
        }

        void copyEndings(Machine other, int shift) {
            for (int s = 0; s < other.states; s++) {
                setEnding(s + shift, other.ending[s]);
            }
        }

        void copyFrom(Machine other) {
            states = other.states;
            startCost = other.startCost;
            arcs = other.arcs;
            tooLarge = other.tooLarge;
            System.arraycopy(other.ending, 0, ending, 0, MOST_STATES);
            System.arraycopy(other.from, 0, from, 0, arcs);
            System.arraycopy(other.to, 0, to, 0, arcs);
            System.arraycopy(other.in, 0, in, 0, arcs);
            System.arraycopy(other.out, 0, out, 0, arcs);
            System.arraycopy(other.cost, 0, cost, 0, arcs);
            System.arraycopy(other.leavingAt, 0, leavingAt, 0, MOST_STATES + 1);
            System.arraycopy(other.leaving, 0, leaving, 0, arcs);
            System.arraycopy(other.comingAt, 0, comingAt, 0, MOST_STATES + 1);
            System.arraycopy(other.coming, 0, coming, 0, arcs);
        }

        void sortArcs() {
            sortBy(from, leavingAt, leaving);
            sortBy(to, comingAt, coming);
        }

        private void sortBy(int[] key, int[] firstOf, int[] sorted) {
            int count = 0;
            for (int s = 0; s < MOST_STATES; s++) {
                firstOf[s] = count;
                if (s >= states) {
                    continue;
                }
                for (int a = 0; a < arcs; a++) {
                    if (key[a] == s) {
                        sorted[count] = a;
                        count++;
                    }
                }
            }
            firstOf[MOST_STATES] = count;
        }

        boolean isAcceptor() {
            for (int a = 0; a < arcs; a++) {
                if (in[a] != out[a]) {
                    return false;
                }
            }
            return true;
        }

        boolean isPlain() {
            for (int a = 0; a < arcs; a++) {
                if (in[a] != out[a] || in[a] == SILENT) {
                    return false;
                }
            }
            return true;
        }

        boolean isOneWay() {
            for (int a = 0; a < arcs; a++) {
                if (in[a] == SILENT) {
                    return false;
                }
                for (int b = 0; b < a; b++) {
                    if (from[a] == from[b] && in[a] == in[b]) {
                        return false;
                    }
                }
            }
            return true;
        }

        int countEndings() {
            int count = 0;
            for (int s = 0; s < states; s++) {
                count += ending[s] == NONE ? 0 : 1;
            }
            return count;
        }

        int countSilent() {
            int count = 0;
            for (int a = 0; a < arcs; a++) {
                count += in[a] == SILENT && out[a] == SILENT ? 1 : 0;
            }
            return count;
        }

        boolean isBuiltAs(Machine other) {
            if (startCost != other.startCost || states != other.states || arcs != other.arcs) {
                return false;
            }
            for (int s = 0; s < states; s++) {
                if (ending[s] != other.ending[s]) {
                    return false;
                }
            }
            for (int a = 0; a < arcs; a++) {
                if (from[a] != other.from[a] || to[a] != other.to[a] || in[a] != other.in[a]
                        || out[a] != other.out[a] || cost[a] != other.cost[a]) {
                    return false;
                }
            }
            return true;
        }
    }

    /** The TAPE, and what reads it from the left: the first fault ends the reading. */
    private static final class Tape {
        private static final int WRONG = 1;
        private static final int NO_SUCH_NUMBER = 2;
        private static final int ARC_TOO_MANY = 3;
        private static final int TEXT_STATES = 12;
        private static final int TEXT_ARCS = 30;
        private static final int TEXT_COST = 999;
        int count;
        final int[] bytes = new int[TAPE_BYTES];
        int faultKind;
        int faultAt;
        private int length;
        private int at;

        int addNumbers(int a, int b, int c, int d, int e) {
            if (count + 20 > TAPE_BYTES) {
                return NONE;
            }
            addNumber(a);
            addNumber(b);
            addNumber(c);
            addNumber(d);
            addNumber(e);
            return count;
        }

        private void addNumber(int number) {
            for (int shift = 24; shift >= 0; shift -= 8) {
                bytes[count] = (number >>> shift) & 255;
                count++;
            }
        }

        /** How many letters stand one behind the other from a place on, ahead of n, at most those of a word. */
        int takeLetters(int start, int n, int[] into) {
            int taken = 0;
            while (taken < WORD_LETTERS && start + taken < n && start + taken < count
                    && letterOf(bytes[start + taken]) != NONE) {
                into[taken] = letterOf(bytes[start + taken]);
                taken++;
            }
            return taken;
        }

        boolean readMachine(int n, Machine into) {
            length = Math.min(n, count);
            at = 0;
            faultKind = 0;
            faultAt = NONE;
            if (!readHead(into)) {
                return false;
            }
            for (int line = 0; line <= TAPE_BYTES; line++) {
                skipBlanks();
                if (at >= length) {
                    return true;
                }
                if (!readLine(into) || !readSemicolon()) {
                    return false;
                }
            }
            return false;
        }

        private boolean readHead(Machine into) {
            skipBlanks();
            int end = wordEnd();
            if (!isWord("states", end)) {
                return fail(WRONG, at);
            }
            at = end;
            int howMany = readNumber(1, TEXT_STATES);
            if (howMany == NONE) {
                return false;
            }
            into.begin(howMany, 0);
            return readSemicolon();
        }

        private boolean readLine(Machine into) {
            int end = wordEnd();
            if (isWord("start", end)) {
                at = end;
                return readStart(into);
            }
            if (isWord("final", end)) {
                at = end;
                return readFinal(into);
            }
            if (!isWord("arc", end)) {
                return fail(WRONG, at);
            }
            if (into.arcs >= TEXT_ARCS) {
                return fail(ARC_TOO_MANY, at);
            }
            at = end;
            return readArc(into);
        }

        private boolean readStart(Machine into) {
            int costs = readNumber(0, TEXT_COST);
            if (costs == NONE) {
                return false;
            }
            into.setStartCost(costs);
            return true;
        }

        private boolean readFinal(Machine into) {
            int state = readNumber(0, into.states - 1);
            int costs = state == NONE ? NONE : readNumber(0, TEXT_COST);
            if (costs == NONE) {
                return false;
            }
            into.setEnding(state, costs);
            return true;
        }

        private boolean readArc(Machine into) {
            int p = readNumber(0, into.states - 1);
            int q = p == NONE ? NONE : readNumber(0, into.states - 1);
            int reads = q == NONE ? NONE : readSign();
            int writes = reads == NONE ? NONE : readSign();
            int costs = writes == NONE ? NONE : readNumber(0, TEXT_COST);
            if (costs == NONE) {
                return false;
            }
            into.addArc(p, q, reads, writes, costs);
            return true;
        }

        private int readNumber(int low, int high) {
            skipBlanks();
            int first = at;
            int value = 0;
            while (at < length && bytes[at] >= '0' && bytes[at] <= '9') {
                // Held at 1000, above every number that may stand, so that no length wraps round.
                value = Math.min(value * 10 + bytes[at] - '0', TEXT_COST + 1);
                at++;
            }
            if (at == first) {
                fail(WRONG, first);
                return NONE;
            }
            if (value < low || value > high) {
                fail(NO_SUCH_NUMBER, first);
                return NONE;
            }
            return value;
        }

        private int readSign() {
            skipBlanks();
            if (at < length && bytes[at] == '-') {
                at++;
                return SILENT;
            }
            int end = wordEnd();
            if (end != at + 1 || letterOf(bytes[at]) == NONE) {
                fail(WRONG, at);
                return NONE;
            }
            at = end;
            return letterOf(bytes[at - 1]);
        }

        private boolean readSemicolon() {
            skipBlanks();
            if (at >= length || bytes[at] != ';') {
                return fail(WRONG, at);
            }
            at++;
            return true;
        }

        private void skipBlanks() {
            while (at < length && bytes[at] == ' ') {
                at++;
            }
        }

        private int wordEnd() {
            int end = at;
            while (end < length && bytes[end] >= 'a' && bytes[end] <= 'z') {
                end++;
            }
            return end;
        }

        private boolean isWord(String wanted, int end) {
            if (end - at != wanted.length()) {
                return false;
            }
            for (int i = 0; i < wanted.length(); i++) {
                if (bytes[at + i] != wanted.charAt(i)) {
                    return false;
                }
            }
            return true;
        }

        private boolean fail(int kind, int place) {
            faultKind = kind;
            faultAt = place;
            return false;
        }
    }

    /** What the latest acts changed, newest last, in a ring. */
    private static final class History {
        private static final int KEPT = 10;
        int count;
        private int next;
        private final int[] slot = new int[KEPT];
        private final Machine[] machine = new Machine[KEPT];
        private final int[] tapeCount = new int[KEPT];
        private final int[][] tapeBytes = new int[KEPT][TAPE_BYTES];

        History() {
            for (int i = 0; i < KEPT; i++) {
                machine[i] = new Machine();
            }
        }

        void keep(int of, Machine old, Tape tape) {
            slot[next] = of;
            machine[next].copyFrom(old);
            tapeCount[next] = tape.count;
            System.arraycopy(tape.bytes, 0, tapeBytes[next], 0, tape.count);
            next = next + 1 == KEPT ? 0 : next + 1;
            count = Math.min(count + 1, KEPT);
        }

        void takeBack(Machine[] slots, Tape tape) {
            if (count == 0) {
                return;
            }
            count--;
            next = next == 0 ? KEPT - 1 : next - 1;
            slots[slot[next]].copyFrom(machine[next]);
            tape.count = tapeCount[next];
            System.arraycopy(tapeBytes[next], 0, tape.bytes, 0, tape.count);
        }
    }

    private static int letterOf(int sign) {
        return sign >= 'a' && sign < 'a' + LETTERS ? sign - 'a' + 1 : NONE;
    }

    /** What can be come to, what it costs to end, how many paths there are, and least ways by silent arcs. */
    private static final class Reach {
        // Above the arcs of any least path, so that a key orders by cost, then by arcs.
        private static final int UNIT = 64;
        private final long[] key = new long[MOST_STATES];
        private final boolean[] come = new boolean[MOST_STATES];
        private final long[] now = new long[MOST_STATES];
        private final long[] next = new long[MOST_STATES];
        final int[] best = new int[MOST_STATES];
        private final int[] way = new int[MOST_STATES * MOST_STATES];

        void measure(Machine m) {
            for (int s = 0; s < m.states; s++) {
                key[s] = m.ending[s] == NONE ? NONE : (long) m.ending[s] * UNIT;
            }
            boolean changed = true;
            for (int round = 0; round <= m.states && changed; round++) {
                changed = lowerKeys(m);
            }
        }

        private boolean lowerKeys(Machine m) {
            boolean changed = false;
            for (int a = 0; a < m.arcs; a++) {
                long rest = key[m.to[a]];
                long whole = rest + (long) m.cost[a] * UNIT + 1;
                if (rest != NONE && (key[m.from[a]] == NONE || whole < key[m.from[a]])) {
                    key[m.from[a]] = whole;
                    changed = true;
                }
            }
            return changed;
        }

        int costFrom(int state) {
            return key[state] == NONE ? NONE : (int) (key[state] / UNIT);
        }

        int arcsFrom(int state) {
            return key[state] == NONE ? NONE : (int) (key[state] % UNIT);
        }

        int arcOfLeast(Machine m, int k) {
            int state = 0;
            int found = NONE;
            for (int step = 0; step <= k; step++) {
                found = leastArcFrom(m, state);
                if (found == NONE) {
                    return NONE;
                }
                state = m.to[found];
            }
            return found;
        }

        private int leastArcFrom(Machine m, int state) {
            for (int i = m.leavingAt[state]; i < m.leavingAt[state + 1]; i++) {
                int a = m.leaving[i];
                long rest = key[m.to[a]];
                if (rest != NONE && rest + (long) m.cost[a] * UNIT + 1 == key[state]) {
                    return a;
                }
            }
            return NONE;
        }

        void markUseful(Machine m) {
            measure(m);
            for (int s = 0; s < m.states; s++) {
                come[s] = s == 0;
            }
            boolean changed = true;
            for (int round = 0; round <= m.states && changed; round++) {
                changed = false;
                for (int a = 0; a < m.arcs; a++) {
                    if (come[m.from[a]] && !come[m.to[a]]) {
                        come[m.to[a]] = true;
                        changed = true;
                    }
                }
            }
        }

        boolean isUseful(int state) {
            return come[state] && key[state] != NONE;
        }

        int countUseful(Machine m) {
            markUseful(m);
            int count = 0;
            for (int s = 0; s < m.states; s++) {
                count += isUseful(s) ? 1 : 0;
            }
            return count;
        }

        long countPaths(Machine m, int arcs) {
            for (int s = 0; s < m.states; s++) {
                now[s] = s == 0 ? 1 : 0;
            }
            for (int step = 0; step < arcs; step++) {
                countOneArcMore(m);
            }
            long sum = 0;
            for (int s = 0; s < m.states; s++) {
                sum += m.ending[s] == NONE ? 0 : now[s];
            }
            return Math.min(sum, MOST_PATHS);
        }

        private void countOneArcMore(Machine m) {
            Arrays.fill(next, 0L);
            for (int a = 0; a < m.arcs; a++) {
                // Held at the most that is told: more could only grow, and never wraps round.
                next[m.to[a]] = Math.min(next[m.to[a]] + now[m.from[a]], MOST_PATHS);
            }
            System.arraycopy(next, 0, now, 0, MOST_STATES);
        }

        void measureSilent(Machine m) {
            Arrays.fill(way, NONE);
            for (int s = 0; s < m.states; s++) {
                way[s * MOST_STATES + s] = 0;
            }
            for (int a = 0; a < m.arcs; a++) {
                if (m.in[a] == SILENT) {
                    lower(way, m.from[a] * MOST_STATES + m.to[a], m.cost[a]);
                }
            }
            for (int k = 0; k < m.states; k++) {
                for (int p = 0; p < m.states; p++) {
                    if (p != k && way[p * MOST_STATES + k] != NONE) {
                        goThrough(m.states, p * MOST_STATES, k * MOST_STATES, way[p * MOST_STATES + k]);
                    }
                }
            }
        }

        private void goThrough(int states, int rowOfP, int rowOfK, int toK) {
            for (int q = 0; q < states; q++) {
                if (way[rowOfK + q] != NONE) {
                    lower(way, rowOfP + q, toK + way[rowOfK + q]);
                }
            }
        }

        /** Fills best: of each state the least cost of a silent way from p and an arc that reads the letter. */
        void stepFrom(Machine m, int p, int letter) {
            Arrays.fill(best, NONE);
            for (int q = 0; q < m.states; q++) {
                int toQ = way[p * MOST_STATES + q];
                if (toQ == NONE) {
                    continue;
                }
                for (int i = m.leavingAt[q]; i < m.leavingAt[q + 1]; i++) {
                    int a = m.leaving[i];
                    if (m.in[a] == letter) {
                        lower(best, m.to[a], toQ + m.cost[a]);
                    }
                }
            }
        }

        int endingFrom(Machine m, int p) {
            int least = NONE;
            for (int q = 0; q < m.states; q++) {
                int toQ = way[p * MOST_STATES + q];
                if (toQ != NONE && m.ending[q] != NONE) {
                    least = lesser(least, toQ + m.ending[q]);
                }
            }
            return least;
        }
    }

    private static void lower(int[] row, int at, int value) {
        if (row[at] == NONE || value < row[at]) {
            row[at] = value;
        }
    }

    private static int lesser(int known, int value) {
        return known == NONE || value < known ? value : known;
    }

    /** Makes a machine of one. */
    private static final class Maker {
        private final Reach reach;
        private final int[] number = new int[MOST_STATES];
        // ONE-WAY: of each made state a row of what the given states have yet to pay, NONE for those not in it.
        private final int[] rows = new int[MOST_STATES * MOST_STATES];
        private final int[] next = new int[MOST_STATES];
        // MERGED: of each state its kind, numbered by the least states of the kinds.
        final int[] kind = new int[MOST_STATES];
        private final int[] finer = new int[MOST_STATES];
        private final int[] leastOf = new int[MOST_STATES];
        private int kinds;

        Maker(Reach reach) {
            this.reach = reach;
        }

        void build(int what, Machine m, Machine into) {
            switch (what) {
                case 1: buildOneSided(m, into, m.in); break;
                case 2: buildOneSided(m, into, m.out); break;
                case 3: buildTurned(m, into); break;
                case 4: buildFree(m, into); break;
                case 5: buildOneWay(m, into); break;
                case 6: buildPushed(m, into); break;
                case 7: buildMerged(m, into); break;
                default: buildTrimmed(m, into); break;
            }
        }

        private void buildTrimmed(Machine m, Machine into) {
            reach.markUseful(m);
            int count = 0;
            for (int s = 0; s < m.states; s++) {
                boolean stays = s == 0 || reach.isUseful(s);
                number[s] = stays ? count : NONE;
                count += stays ? 1 : 0;
            }
            into.begin(count, m.startCost);
            for (int s = 0; s < m.states; s++) {
                if (number[s] != NONE) {
                    into.setEnding(number[s], m.ending[s]);
                }
            }
            for (int a = 0; a < m.arcs; a++) {
                if (reach.isUseful(m.from[a]) && reach.isUseful(m.to[a])) {
                    into.addArc(number[m.from[a]], number[m.to[a]], m.in[a], m.out[a], m.cost[a]);
                }
            }
        }

        private void buildOneSided(Machine m, Machine into, int[] side) {
            into.begin(m.states, m.startCost);
            into.copyEndings(m, 0);
            for (int a = 0; a < m.arcs; a++) {
                into.addArc(m.from[a], m.to[a], side[a], side[a], m.cost[a]);
            }
        }

        private void buildTurned(Machine m, Machine into) {
            into.begin(m.states + 1, m.startCost);
            for (int s = 0; s < m.states; s++) {
                if (m.ending[s] != NONE) {
                    into.addArc(0, s + 1, SILENT, SILENT, m.ending[s]);
                }
            }
            for (int a = 0; a < m.arcs; a++) {
                into.addArc(m.to[a] + 1, m.from[a] + 1, m.in[a], m.out[a], m.cost[a]);
            }
            into.setEnding(1, 0);
        }

        private void buildFree(Machine m, Machine into) {
            reach.measureSilent(m);
            into.begin(m.states, m.startCost);
            for (int p = 0; p < m.states; p++) {
                into.setEnding(p, reach.endingFrom(m, p));
                for (int letter = 1; letter <= LETTERS; letter++) {
                    reach.stepFrom(m, p, letter);
                    for (int r = 0; r < m.states; r++) {
                        if (reach.best[r] != NONE) {
                            into.addArc(p, r, letter, letter, reach.best[r]);
                        }
                    }
                }
            }
        }

        private void buildPushed(Machine m, Machine into) {
            buildTrimmed(m, into);
            reach.measure(into);
            if (reach.costFrom(0) == NONE) {
                return;
            }
            for (int a = 0; a < into.arcs; a++) {
                into.setCost(a, into.cost[a] + reach.costFrom(into.to[a]) - reach.costFrom(into.from[a]));
            }
            for (int s = 0; s < into.states; s++) {
                if (into.ending[s] != NONE) {
                    into.setEnding(s, into.ending[s] - reach.costFrom(s));
                }
            }
            into.setStartCost(into.startCost + reach.costFrom(0));
        }

        private void buildOneWay(Machine m, Machine into) {
            into.begin(1, m.startCost);
            Arrays.fill(rows, 0, MOST_STATES, NONE);
            rows[0] = 0;
            for (int s = 0; s < into.states && s < MOST_STATES && !into.tooLarge; s++) {
                into.setEnding(s, endingOf(m, s * MOST_STATES));
                for (int letter = 1; letter <= LETTERS; letter++) {
                    int costs = step(m, s * MOST_STATES, letter);
                    if (costs != NONE) {
                        into.addArc(s, findRow(into), letter, letter, costs);
                    }
                }
            }
        }

        private int endingOf(Machine m, int row) {
            int least = NONE;
            for (int p = 0; p < m.states; p++) {
                if (rows[row + p] != NONE && m.ending[p] != NONE) {
                    least = lesser(least, rows[row + p] + m.ending[p]);
                }
            }
            return least;
        }

        /** Fills next with the row behind the letter; what the arc there costs, NONE if there is no arc. */
        private int step(Machine m, int row, int letter) {
            Arrays.fill(next, NONE);
            for (int a = 0; a < m.arcs; a++) {
                int due = rows[row + m.from[a]];
                if (due != NONE && m.in[a] == letter) {
                    lower(next, m.to[a], due + m.cost[a]);
                }
            }
            return takeLeastOff(next, 0, m.states);
        }

        private int findRow(Machine into) {
            for (int s = 0; s < into.states; s++) {
                if (isRow(s * MOST_STATES)) {
                    return s;
                }
            }
            int fresh = into.addState();
            if (fresh != NONE) {
                System.arraycopy(next, 0, rows, fresh * MOST_STATES, MOST_STATES);
            }
            return fresh;
        }

        private boolean isRow(int row) {
            for (int p = 0; p < MOST_STATES; p++) {
                if (rows[row + p] != next[p]) {
                    return false;
                }
            }
            return true;
        }

        private void buildMerged(Machine m, Machine into) {
            sortKinds(m);
            into.begin(kinds, m.startCost);
            for (int k = 0; k < kinds; k++) {
                into.setEnding(k, m.ending[leastOf[k]]);
            }
            for (int a = 0; a < m.arcs; a++) {
                if (leastOf[kind[m.from[a]]] == m.from[a] && !isTwice(m, a)) {
                    into.addArc(kind[m.from[a]], kind[m.to[a]], m.in[a], m.out[a], m.cost[a]);
                }
            }
        }

        private boolean isTwice(Machine m, int a) {
            for (int b = 0; b < a; b++) {
                if (m.from[a] == m.from[b] && isSameMove(m, a, b)) {
                    return true;
                }
            }
            return false;
        }

        void sortKinds(Machine m) {
            Arrays.fill(kind, 0);
            kinds = 1;
            // Each round but the last makes kinds more, so states bound the rounds.
            for (int round = 0; round <= m.states; round++) {
                int before = kinds;
                refine(m);
                if (round > 0 && kinds == before) {
                    return;
                }
            }
        }

        private void refine(Machine m) {
            kinds = 0;
            for (int s = 0; s < m.states; s++) {
                int k = 0;
                while (k < kinds && !isAlike(m, s, leastOf[k])) {
                    k++;
                }
                if (k == kinds) {
                    leastOf[k] = s;
                    kinds++;
                }
                finer[s] = k;
            }
            System.arraycopy(finer, 0, kind, 0, m.states);
        }

        private boolean isAlike(Machine m, int s, int t) {
            return kind[s] == kind[t] && m.ending[s] == m.ending[t] && isCovered(m, s, t) && isCovered(m, t, s);
        }

        private boolean isCovered(Machine m, int s, int t) {
            for (int i = m.leavingAt[s]; i < m.leavingAt[s + 1]; i++) {
                boolean found = false;
                for (int j = m.leavingAt[t]; j < m.leavingAt[t + 1] && !found; j++) {
                    found = isSameMove(m, m.leaving[i], m.leaving[j]);
                }
                if (!found) {
                    return false;
                }
            }
            return true;
        }

        private boolean isSameMove(Machine m, int a, int b) {
            return m.in[a] == m.in[b] && m.out[a] == m.out[b] && m.cost[a] == m.cost[b]
                    && kind[m.to[a]] == kind[m.to[b]];
        }
    }

    /** Takes the least of a part of a row off each entry there: that least, NONE if no entry is there. */
    private static int takeLeastOff(int[] row, int start, int width) {
        int least = NONE;
        for (int i = start; i < start + width; i++) {
            if (row[i] != NONE) {
                least = lesser(least, row[i]);
            }
        }
        if (least == NONE) {
            return NONE;
        }
        for (int i = start; i < start + width; i++) {
            if (row[i] != NONE) {
                row[i] -= least;
            }
        }
        return least;
    }

    /** Makes a machine of two. */
    private static final class Joiner {
        private static final int ORDERS = 3;
        // The made state of (p, q, f), NONE if it has not come yet.
        private final int[] number = new int[COUPLES * ORDERS];
        private final int[] firstState = new int[MOST_STATES];
        private final int[] secondState = new int[MOST_STATES];
        private final int[] order = new int[MOST_STATES];

        void build(int what, Machine first, Machine second, Machine into) {
            switch (what) {
                case 8: buildBehind(first, second, into); break;
                case 9: buildEither(first, second, into); break;
                default: buildThen(first, second, into); break;
            }
        }

        private void buildEither(Machine first, Machine second, Machine into) {
            into.begin(1 + first.states + second.states, 0);
            into.addArc(0, 1, SILENT, SILENT, first.startCost);
            into.addArc(0, 1 + first.states, SILENT, SILENT, second.startCost);
            into.copyArcs(first, 1);
            into.copyArcs(second, 1 + first.states);
            into.copyEndings(first, 1);
            into.copyEndings(second, 1 + first.states);
        }

        private void buildThen(Machine first, Machine second, Machine into) {
            into.begin(first.states + second.states, first.startCost);
            into.copyArcs(first, 0);
            for (int s = 0; s < first.states; s++) {
                if (first.ending[s] != NONE) {
                    into.addArc(s, first.states, SILENT, SILENT, first.ending[s] + second.startCost);
                }
            }
            into.copyArcs(second, first.states);
            into.copyEndings(second, first.states);
        }

        private void buildBehind(Machine first, Machine second, Machine into) {
            Arrays.fill(number, NONE);
            into.begin(0, first.startCost + second.startCost);
            stateOf(0, 0, 0, into);
            for (int s = 0; s < into.states && s < MOST_STATES && !into.tooLarge; s++) {
                int p = firstState[s];
                int q = secondState[s];
                if (first.ending[p] != NONE && second.ending[q] != NONE) {
                    into.setEnding(s, first.ending[p] + second.ending[q]);
                }
                for (int i = first.leavingAt[p]; i < first.leavingAt[p + 1]; i++) {
                    moveFirst(first, second, into, s, first.leaving[i]);
                }
                moveSecond(second, into, s);
            }
        }

        private void moveFirst(Machine first, Machine second, Machine into, int s, int e) {
            int q = secondState[s];
            for (int j = second.leavingAt[q]; j < second.leavingAt[q + 1]; j++) {
                int g = second.leaving[j];
                if (first.out[e] == second.in[g] && (first.out[e] != SILENT || order[s] == 0)) {
                    into.addArc(s, stateOf(first.to[e], second.to[g], 0, into), first.in[e], second.out[g],
                            first.cost[e] + second.cost[g]);
                }
            }
            if (first.out[e] == SILENT && order[s] != 2) {
                into.addArc(s, stateOf(first.to[e], q, 1, into), first.in[e], SILENT, first.cost[e]);
            }
        }

        private void moveSecond(Machine second, Machine into, int s) {
            int q = secondState[s];
            for (int j = second.leavingAt[q]; j < second.leavingAt[q + 1]; j++) {
                int g = second.leaving[j];
                if (second.in[g] == SILENT && order[s] != 1) {
                    into.addArc(s, stateOf(firstState[s], second.to[g], 2, into), SILENT, second.out[g],
                            second.cost[g]);
                }
            }
        }

        private int stateOf(int p, int q, int f, Machine into) {
            int place = (p * MOST_STATES + q) * ORDERS + f;
            if (number[place] == NONE) {
                int fresh = into.addState();
                if (fresh == NONE) {
                    return NONE;
                }
                number[place] = fresh;
                firstState[fresh] = p;
                secondState[fresh] = q;
                order[fresh] = f;
            }
            return number[place];
        }
    }

    /** Words from the tape, and the least cost of paths that read one, or read one and write another. */
    private static final class Pairing {
        private static final int PLACES = WORD_LETTERS + 1;
        private final int[] reads = new int[WORD_LETTERS];
        private final int[] writes = new int[WORD_LETTERS];
        private int readLetters;
        private int writeLetters;
        // The least cost to each state behind i letters read and j written.
        private final int[] paid = new int[PLACES * PLACES * MOST_STATES];

        /** Where the fault is, NONE without. */
        int readWord(Tape tape, int n) {
            readLetters = tape.takeLetters(0, n, reads);
            writeLetters = 0;
            return readLetters == n ? NONE : readLetters;
        }

        int readCouple(Tape tape, int n) {
            readLetters = tape.takeLetters(0, n, reads);
            writeLetters = 0;
            if (readLetters >= n || tape.bytes[readLetters] != ':') {
                return readLetters;
            }
            int second = readLetters + 1;
            writeLetters = tape.takeLetters(second, n, writes);
            return second + writeLetters == n ? NONE : second + writeLetters;
        }

        int costOf(Machine m, boolean withWrites) {
            for (int i = 0; i <= readLetters; i++) {
                Arrays.fill(paid, rowOf(i, 0), rowOf(i, writeLetters + 1), NONE);
            }
            paid[0] = m.startCost;
            for (int i = 0; i <= readLetters; i++) {
                for (int j = 0; j <= writeLetters; j++) {
                    settleSilent(m, rowOf(i, j), withWrites);
                    moveOn(m, i, j, withWrites);
                }
            }
            int row = rowOf(readLetters, writeLetters);
            int least = NONE;
            for (int s = 0; s < m.states; s++) {
                if (paid[row + s] != NONE && m.ending[s] != NONE) {
                    least = lesser(least, paid[row + s] + m.ending[s]);
                }
            }
            return least;
        }

        private static int rowOf(int i, int j) {
            return (i * PLACES + j) * MOST_STATES;
        }

        private void settleSilent(Machine m, int row, boolean withWrites) {
            boolean changed = true;
            for (int round = 0; round <= m.states && changed; round++) {
                changed = false;
                for (int a = 0; a < m.arcs; a++) {
                    int before = paid[row + m.from[a]];
                    if (before == NONE || m.in[a] != SILENT || (withWrites && m.out[a] != SILENT)) {
                        continue;
                    }
                    int old = paid[row + m.to[a]];
                    lower(paid, row + m.to[a], before + m.cost[a]);
                    changed = changed || old != paid[row + m.to[a]];
                }
            }
        }

        private void moveOn(Machine m, int i, int j, boolean withWrites) {
            int row = rowOf(i, j);
            for (int a = 0; a < m.arcs; a++) {
                int read = m.in[a];
                int written = withWrites ? m.out[a] : SILENT;
                if (paid[row + m.from[a]] == NONE || (read == SILENT && written == SILENT)) {
                    continue;
                }
                if (read != SILENT && (i >= readLetters || reads[i] != read)) {
                    continue;
                }
                if (written != SILENT && (j >= writeLetters || writes[j] != written)) {
                    continue;
                }
                int next = rowOf(read == SILENT ? i : i + 1, written == SILENT ? j : j + 1);
                lower(paid, next + m.to[a], paid[row + m.from[a]] + m.cost[a]);
            }
        }
    }

    /** The moves of a machine by one letter each, silent ways put ahead of them, useless states left out. */
    private static final class Steps {
        // With 39 silent arcs 81 others may be stepped to from all 40 states; no other share gives more.
        private static final int MOST_STEPS = 81 * MOST_STATES;
        int states;
        int startsWith;
        private final Reach reach;
        private final int[] firstOf = new int[LETTERS + 2];
        private final int[] from = new int[MOST_STEPS];
        private final int[] to = new int[MOST_STEPS];
        private final int[] cost = new int[MOST_STEPS];
        private final int[] ending = new int[MOST_STATES];

        Steps(Reach reach) {
            this.reach = reach;
        }

        void clear() {
            states = 0;
            startsWith = NONE;
            Arrays.fill(firstOf, 0);
        }

        void take(Machine m) {
            clear();
            states = m.states;
            reach.markUseful(m);
            reach.measureSilent(m);
            startsWith = reach.isUseful(0) ? m.startCost : NONE;
            for (int p = 0; p < states; p++) {
                ending[p] = reach.endingFrom(m, p);
            }
            int count = 0;
            for (int letter = 1; letter <= LETTERS; letter++) {
                for (int p = 0; p < states; p++) {
                    if (reach.isUseful(p)) {
                        reach.stepFrom(m, p, letter);
                        count = addSteps(p, count);
                    }
                }
                firstOf[letter + 1] = count;
            }
        }

        private int addSteps(int p, int before) {
            int count = before;
            for (int r = 0; r < states; r++) {
                if (reach.best[r] != NONE && reach.isUseful(r) && count < MOST_STEPS) {
                    from[count] = p;
                    to[count] = r;
                    cost[count] = reach.best[r];
                    count++;
                }
            }
            return count;
        }

        /** Words that have a cost are counted faster if all cost nothing: more of their rows are the same then. */
        void dropCosts() {
            startsWith = startsWith == NONE ? NONE : 0;
            Arrays.fill(cost, 0, firstOf[LETTERS + 1], 0);
            for (int p = 0; p < states; p++) {
                ending[p] = ending[p] == NONE ? NONE : 0;
            }
        }

        void go(int[] rows, int row, int next, int letter) {
            for (int i = firstOf[letter]; i < firstOf[letter + 1]; i++) {
                int paid = rows[row + from[i]];
                if (paid != NONE) {
                    lower(rows, next + to[i], paid + cost[i]);
                }
            }
        }

        int costAt(int[] rows, int row) {
            int least = NONE;
            for (int s = 0; s < states; s++) {
                if (rows[row + s] != NONE && ending[s] != NONE) {
                    least = lesser(least, rows[row + s] + ending[s]);
                }
            }
            return least;
        }
    }

    /**
     * Goes through all words of one length, letter by letter. A row has what each state of one machine, then of the
     * other, has been paid, less the least of all; words that came to the same row go on alike, so answers are kept
     * by row and by letters left.
     */
    private static final class WordTree {
        int apartLetters = NONE;
        final int[] apartWord = new int[ASKED_LETTERS];
        private static final int COUNT = 0;
        private static final int GREATEST = 1;
        private static final int APART = 2;
        private static final int WIDTH = 2 * MOST_STATES;
        private static final int KEPT = 256;
        private final Steps first;
        private final Steps second;
        private int aim;
        private int width;
        private final int[] rows = new int[(ASKED_LETTERS + 1) * WIDTH];
        private final int[] keptRow = new int[KEPT * WIDTH];
        private final int[] keptLeft = new int[KEPT];
        private final int[] keptAnswer = new int[KEPT];

        WordTree(Reach reach) {
            first = new Steps(reach);
            second = new Steps(reach);
        }

        int countWords(Machine m, int letters) {
            first.take(m);
            first.dropCosts();
            second.clear();
            int paid = begin(COUNT);
            return paid == NONE ? 0 : search(0, letters);
        }

        int greatestCost(Machine m, int letters) {
            first.take(m);
            second.clear();
            int paid = begin(GREATEST);
            int rest = paid == NONE ? NONE : search(0, letters);
            return rest == NONE ? NONE : paid + rest;
        }

        /** The least of all words needs no tree: each letter may be any. */
        int leastCost(Machine m, int letters) {
            first.take(m);
            second.clear();
            int paid = begin(GREATEST);
            int row = 0;
            for (int i = 0; i < letters && i < ASKED_LETTERS; i++) {
                Arrays.fill(rows, row + WIDTH, row + WIDTH + width, NONE);
                for (int letter = 1; letter <= LETTERS; letter++) {
                    first.go(rows, row, row + WIDTH, letter);
                }
                row += WIDTH;
            }
            int rest = first.costAt(rows, row);
            return rest == NONE ? NONE : paid + rest;
        }

        void findApart(Machine one, Machine other) {
            apartLetters = NONE;
            if (one.isBuiltAs(other)) {
                return;
            }
            first.take(one);
            second.take(other);
            if (begin(APART) == NONE) {
                return;
            }
            for (int letters = 0; letters <= ASKED_LETTERS; letters++) {
                if (search(0, letters) == 1) {
                    apartLetters = letters;
                    return;
                }
            }
        }

        private int begin(int what) {
            aim = what;
            width = first.states + second.states;
            Arrays.fill(keptLeft, NONE);
            Arrays.fill(rows, 0, WIDTH, NONE);
            rows[0] = first.startsWith;
            if (second.states > 0) {
                rows[first.states] = second.startsWith;
            }
            return takeLeastOff(rows, 0, width);
        }

        private int search(int depth, int left) {
            int row = depth * WIDTH;
            if (left <= 0 || depth >= ASKED_LETTERS) {
                return answerAt(row);
            }
            int place = placeOf(row, left);
            if (isKept(place, row, left)) {
                return keptAnswer[place];
            }
            int answer = aim == GREATEST ? NONE : 0;
            for (int letter = 1; letter <= LETTERS; letter++) {
                int paid = step(row, letter);
                if (paid == NONE) {
                    continue;
                }
                answer = together(answer, search(depth + 1, left - 1), paid);
                if (aim == APART && answer == 1) {
                    apartWord[depth] = letter;
                    return answer;
                }
            }
            keep(place, row, left, answer);
            return answer;
        }

        private int answerAt(int row) {
            int cost = first.costAt(rows, row);
            switch (aim) {
                case COUNT: return cost == NONE ? 0 : 1;
                case APART: return cost == second.costAt(rows, row + first.states) ? 0 : 1;
                default: return cost;
            }
        }

        private int step(int row, int letter) {
            int next = row + WIDTH;
            Arrays.fill(rows, next, next + width, NONE);
            first.go(rows, row, next, letter);
            second.go(rows, row + first.states, next + first.states, letter);
            return takeLeastOff(rows, next, width);
        }

        private int together(int answer, int more, int paid) {
            if (aim != GREATEST) {
                return answer + more;
            }
            return more == NONE ? answer : Math.max(answer, paid + more);
        }

        private int placeOf(int row, int left) {
            int mix = left;
            for (int i = row; i < row + width; i++) {
                mix = mix * 31 + rows[i];
            }
            mix = mix * 0x9E3779B1;
            return (mix >>> 16) & (KEPT - 1);
        }

        private boolean isKept(int place, int row, int left) {
            if (keptLeft[place] != left) {
                return false;
            }
            for (int i = 0; i < width; i++) {
                if (keptRow[place * WIDTH + i] != rows[row + i]) {
                    return false;
                }
            }
            return true;
        }

        private void keep(int place, int row, int left, int answer) {
            keptLeft[place] = left;
            keptAnswer[place] = answer;
            System.arraycopy(rows, row, keptRow, place * WIDTH, width);
        }
    }

    /** Goes from couple to couple, on or against the arcs, each once, in order as they come. */
    private static final class Sweep {
        int count;
        final int[] queue = new int[COUPLES];
        // The sweep that came to a couple last: no row need be cleared ahead of a sweep.
        private final int[] seenBy = new int[COUPLES];
        private int sweep;
        final int[] letters = new int[COUPLES];
        final long[] pays = new long[COUPLES];
        private final int[] before = new int[COUPLES];
        private final int[] letter = new int[COUPLES];

        private void begin(int couple) {
            sweep++;
            seenBy[couple] = sweep;
            letters[couple] = 0;
            pays[couple] = 0;
            queue[0] = couple;
            count = 1;
        }

        boolean cameTo(int couple) {
            return seenBy[couple] == sweep;
        }

        void goOn(Machine m, int couple) {
            go(m, couple, m.leavingAt, m.leaving, m.to);
        }

        void goBack(Machine m, int couple) {
            go(m, couple, m.comingAt, m.coming, m.from);
        }

        private void go(Machine m, int couple, int[] firstOf, int[] sorted, int[] end) {
            begin(couple);
            for (int head = 0; head < count && head < COUPLES; head++) {
                int p = queue[head] / MOST_STATES;
                int q = queue[head] % MOST_STATES;
                for (int i = firstOf[p]; i < firstOf[p + 1]; i++) {
                    for (int j = firstOf[q]; j < firstOf[q + 1]; j++) {
                        meet(m, queue[head], sorted[i], sorted[j], end);
                    }
                }
            }
        }

        private void meet(Machine m, int couple, int e, int g, int[] end) {
            int other = end[e] * MOST_STATES + end[g];
            if (m.in[e] != m.in[g] || cameTo(other) || count >= COUPLES) {
                return;
            }
            seenBy[other] = sweep;
            before[other] = couple;
            letter[other] = m.in[e];
            letters[other] = letters[couple] + 1;
            pays[other] = pays[couple] + m.cost[e] - m.cost[g];
            queue[count] = other;
            count++;
        }

        /** Writes the letters from where the sweep began to a couple: how many stand in the row then. */
        int writeWord(int couple, int[] into, int at) {
            int end = at + letters[couple];
            int x = couple;
            for (int i = end - 1; i >= at && i < into.length; i--) {
                into[i] = letter[x];
                x = before[x];
            }
            return end;
        }

        /** Writes the letters from a couple to where a sweep against the arcs began. */
        int writeBack(int couple, int[] into, int at) {
            int end = at + letters[couple];
            int x = couple;
            for (int i = at; i < end && i < into.length; i++) {
                into[i] = letter[x];
                x = before[x];
            }
            return end;
        }
    }

    /** Tells TWINS, and if they are not, the couple, U and V. */
    private static final class Couples {
        boolean areTwins;
        int parted;
        int uLetters;
        int vLetters;
        long vPays;
        final int[] uWord = new int[COUPLES];
        final int[] vWord = new int[2 * COUPLES];
        private final Sweep fromStart = new Sweep();
        private final Sweep onward = new Sweep();
        private final Sweep back = new Sweep();
        private final boolean[] good = new boolean[COUPLES];
        private int shownX;
        private int shownY;
        private int shownLetter;
        private long shownPays;

        void examine(Machine m) {
            areTwins = true;
            uLetters = 0;
            vLetters = 0;
            fromStart.goOn(m, 0);
            forgetGood();
            for (int couple = 0; couple < COUPLES && areTwins; couple++) {
                if (!fromStart.cameTo(couple) || good[couple]) {
                    continue;
                }
                onward.goOn(m, couple);
                back.goBack(m, couple);
                if (findShown(m)) {
                    areTwins = false;
                    tell(couple);
                } else {
                    markGood();
                }
            }
        }

        private void forgetGood() {
            for (int couple = 0; couple < COUPLES; couple++) {
                good[couple] = false;
            }
        }

        private boolean findShown(Machine m) {
            for (int head = 0; head < onward.count; head++) {
                int x = onward.queue[head];
                int p = x / MOST_STATES;
                int q = x % MOST_STATES;
                for (int i = m.leavingAt[p]; i < m.leavingAt[p + 1]; i++) {
                    for (int j = m.leavingAt[q]; j < m.leavingAt[q + 1]; j++) {
                        if (isShown(m, x, m.leaving[i], m.leaving[j])) {
                            return true;
                        }
                    }
                }
            }
            return false;
        }

        private boolean isShown(Machine m, int x, int e, int g) {
            int y = m.to[e] * MOST_STATES + m.to[g];
            long after = onward.pays[x] + m.cost[e] - m.cost[g];
            if (m.in[e] != m.in[g] || !back.cameTo(y) || after == onward.pays[y]) {
                return false;
            }
            shownX = x;
            shownY = y;
            shownLetter = m.in[e];
            shownPays = after;
            return true;
        }

        /** Couples that lie on ways round with one that is good are good too: none of those ways pays unlike. */
        private void markGood() {
            for (int head = 0; head < onward.count; head++) {
                int x = onward.queue[head];
                good[x] = good[x] || back.cameTo(x);
            }
        }

        private void tell(int couple) {
            parted = couple;
            uLetters = fromStart.writeWord(couple, uWord, 0);
            long over = shownPays + back.pays[shownY];
            if (over != 0) {
                int end = onward.writeWord(shownX, vWord, 0);
                if (end < vWord.length) {
                    vWord[end] = shownLetter;
                }
                vLetters = back.writeBack(shownY, vWord, end + 1);
                vPays = over;
            } else {
                int end = onward.writeWord(shownY, vWord, 0);
                vLetters = back.writeBack(shownY, vWord, end);
                vPays = onward.pays[shownY] + back.pays[shownY];
            }
        }
    }
}
