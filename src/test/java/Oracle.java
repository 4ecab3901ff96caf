import java.util.ArrayDeque;
import java.util.ArrayList;
import java.util.Arrays;
import java.util.HashMap;
import java.util.HashSet;
import java.util.List;
import java.util.Map;
import java.util.NoSuchElementException;
import java.util.Set;
import java.util.TreeMap;

/**
 * The document once more, written without a thought for room or speed and by other means than CostBench
 * (maps, strings, whole copies), so that a slip in one of the two shows as a difference.
 */
final class Oracle {
    static final class Arc {
        final int from;
        final int to;
        final int in;
        final int out;
        final long cost;

        Arc(int from, int to, int in, int out, long cost) {
            this.from = from;
            this.to = to;
            this.in = in;
            this.out = out;
            this.cost = cost;
        }
    }

    static final class Made {
        int states = 1;
        long startCost;
        final Map<Integer, Long> finals = new TreeMap<>();
        final List<Arc> arcs = new ArrayList<>();

        boolean tooLarge() {
            boolean large = states > 40 || arcs.size() > 120 || startCost > 1_000_000;
            for (Arc a : arcs) {
                large |= a.cost > 1_000_000;
            }
            for (long c : finals.values()) {
                large |= c > 1_000_000;
            }
            return large;
        }

        boolean acceptor() {
            return arcs.stream().allMatch(a -> a.in == a.out);
        }

        boolean plain() {
            return acceptor() && arcs.stream().noneMatch(a -> a.in == 0);
        }

        String told() {
            StringBuilder b = new StringBuilder();
            b.append(states).append('/').append(startCost).append('/').append(finals);
            for (Arc a : arcs) {
                b.append('|').append(a.from).append(',').append(a.to).append(',').append(a.in).append(',')
                        .append(a.out).append(',').append(a.cost);
            }
            return b.toString();
        }
    }

    /** What a text with a fault throws here. */
    private static final class Fault extends RuntimeException {
        private static final long serialVersionUID = 1L;
        final int kind;
        final int at;

        Fault(int kind, int at) {
            this.kind = kind;
            this.at = at;
        }
    }

    private static final class Snapshot {
        Made[] slots;
        byte[] tape;
    }

    private Made[] slots = new Made[6];
    private byte[] tape = new byte[0];
    private int fault = -1;
    private final ArrayDeque<Snapshot> past = new ArrayDeque<>();
    private final int[] refused = new int[3];

    Oracle() {
        for (int i = 0; i < 6; i++) {
            slots[i] = new Made();
        }
    }

    // ---- refusals

    private RuntimeException noSuch() {
        refused[0]++;
        return new NoSuchElementException();
    }

    private RuntimeException badArgument() {
        refused[1]++;
        return new IllegalArgumentException();
    }

    private RuntimeException badState() {
        refused[2]++;
        return new IllegalStateException();
    }

    private void needSlot(int... numbers) {
        for (int n : numbers) {
            if (n < 0 || n > 5) {
                throw noSuch();
            }
        }
    }

    private void needRange(int value, int low, int high) {
        if (value < low || value > high) {
            throw badArgument();
        }
    }

    // ---- the calls

    int feed(int a, int b, int c, int d, int e) {
        if (tape.length + 20 > 400) {
            return -1;
        }
        byte[] more = Arrays.copyOf(tape, tape.length + 20);
        int at = tape.length;
        for (int number : new int[] {a, b, c, d, e}) {
            more[at++] = (byte) (number >> 24);
            more[at++] = (byte) (number >> 16);
            more[at++] = (byte) (number >> 8);
            more[at++] = (byte) number;
        }
        tape = more;
        return tape.length;
    }

    private String takeTape(int n) {
        StringBuilder b = new StringBuilder();
        for (int i = 0; i < n; i++) {
            b.append((char) (tape[i] & 255));
        }
        return b.toString();
    }

    private void remember() {
        Snapshot s = new Snapshot();
        s.slots = slots.clone();
        s.tape = tape.clone();
        past.addLast(s);
        if (past.size() > 10) {
            past.removeFirst();
        }
    }

    int text(int slot, int n) {
        needSlot(slot);
        needRange(n, 0, tape.length);
        String text = takeTape(n);
        try {
            Made m = new TextReader(text).machine();
            remember();
            slots[slot] = m;
            tape = new byte[0];
            fault = -1;
            return m.arcs.size();
        } catch (Fault f) {
            tape = new byte[0];
            fault = f.at;
            return f.kind - 10;
        }
    }

    int fault() {
        return fault;
    }

    int make(int what, int slot, int to) {
        needSlot(slot, to);
        needRange(what, 0, 7);
        Made m = slots[slot];
        if (what == 4 && !m.acceptor() || what == 5 && !m.plain()) {
            throw badState();
        }
        return put(to, makeOf(what, m));
    }

    int join(int what, int first, int second, int to) {
        needSlot(first, second, to);
        needRange(what, 8, 10);
        Made a = slots[first];
        Made b = slots[second];
        return put(to, what == 8 ? behind(a, b) : what == 9 ? either(a, b) : then(a, b));
    }

    private int put(int to, Made made) {
        if (made == null || made.tooLarge()) {
            throw badState();
        }
        remember();
        slots[to] = made;
        return made.states;
    }

    int undo() {
        if (past.isEmpty()) {
            return -1;
        }
        Snapshot s = past.removeLast();
        slots = s.slots;
        tape = s.tape;
        return past.size();
    }

    int told(int slot, int what) {
        needSlot(slot);
        needRange(what, 0, 10);
        Made m = slots[slot];
        switch (what) {
            case 0: return m.states;
            case 1: return m.arcs.size();
            case 2: return (int) m.startCost;
            case 3: return m.acceptor() ? 1 : 0;
            case 4: return m.plain() ? 1 : 0;
            case 5: return oneWay(m) ? 1 : 0;
            case 6: return m.finals.size();
            case 7: return (int) m.arcs.stream().filter(a -> a.in == 0 && a.out == 0).count();
            case 8: return useful(m).size();
            case 9: return tape.length;
            default: return past.size();
        }
    }

    private static boolean oneWay(Made m) {
        Set<String> seen = new HashSet<>();
        for (Arc a : m.arcs) {
            if (a.in == 0 || !seen.add(a.from + "," + a.in)) {
                return false;
            }
        }
        return true;
    }

    int arc(int slot, int arc, int what) {
        needSlot(slot);
        if (arc < 0 || arc >= slots[slot].arcs.size()) {
            throw noSuch();
        }
        needRange(what, 0, 4);
        Arc a = slots[slot].arcs.get(arc);
        return new int[] {a.from, a.to, a.in, a.out, (int) a.cost}[what];
    }

    private void needState(int slot, int state) {
        needSlot(slot);
        if (state < 0 || state >= slots[slot].states) {
            throw noSuch();
        }
    }

    int last(int slot, int state) {
        needState(slot, state);
        return slots[slot].finals.getOrDefault(state, -1L).intValue();
    }

    int least(int slot) {
        needSlot(slot);
        long rest = aheadOf(slots[slot], 0);
        return rest < 0 ? -1 : (int) (slots[slot].startCost + rest);
    }

    int path(int slot, int k) {
        needSlot(slot);
        List<Integer> row = leastPath(slots[slot]);
        if (row == null || k < -1 || k >= row.size()) {
            return -1;
        }
        return k == -1 ? row.size() : row.get(k);
    }

    int word(int slot, int n) {
        needSlot(slot);
        needRange(n, 0, tape.length);
        String text = takeTape(n);
        tape = new byte[0];
        for (int i = 0; i < text.length(); i++) {
            if ("abcd".indexOf(text.charAt(i)) < 0 || i == 20) {
                fault = i;
                return -9;
            }
        }
        fault = -1;
        return (int) costOf(slots[slot], text);
    }

    int couple(int slot, int n) {
        needSlot(slot);
        needRange(n, 0, tape.length);
        String text = takeTape(n);
        tape = new byte[0];
        int colon = -1;
        int letters = 0;
        for (int i = 0; i < text.length(); i++) {
            char c = text.charAt(i);
            if (c == ':' && colon < 0) {
                colon = i;
                letters = 0;
            } else if ("abcd".indexOf(c) < 0 || ++letters > 20) {
                fault = i;
                return -9;
            }
        }
        if (colon < 0) {
            fault = text.length();
            return -9;
        }
        fault = -1;
        return (int) costOfCouple(slots[slot], text.substring(0, colon), text.substring(colon + 1));
    }

    int words(int slot, int letters) {
        needSlot(slot);
        needRange(letters, 0, 8);
        int count = 0;
        for (long c : costsByLength(slots[slot], letters)) {
            count += c < 0 ? 0 : 1;
        }
        return count;
    }

    int worst(int slot, int letters, int what) {
        needSlot(slot);
        needRange(letters, 0, 8);
        needRange(what, 0, 1);
        long least = -1;
        long greatest = -1;
        for (long c : costsByLength(slots[slot], letters)) {
            if (c >= 0) {
                least = least < 0 ? c : Math.min(least, c);
                greatest = Math.max(greatest, c);
            }
        }
        return (int) (what == 0 ? least : greatest);
    }

    long paths(int slot, int arcs) {
        needSlot(slot);
        needRange(arcs, 0, 30);
        Made m = slots[slot];
        java.math.BigInteger[] now = new java.math.BigInteger[m.states];
        Arrays.fill(now, java.math.BigInteger.ZERO);
        now[0] = java.math.BigInteger.ONE;
        for (int i = 0; i < arcs; i++) {
            java.math.BigInteger[] next = new java.math.BigInteger[m.states];
            Arrays.fill(next, java.math.BigInteger.ZERO);
            for (Arc a : m.arcs) {
                next[a.to] = next[a.to].add(now[a.from]);
            }
            now = next;
        }
        java.math.BigInteger sum = java.math.BigInteger.ZERO;
        for (int s : m.finals.keySet()) {
            sum = sum.add(now[s]);
        }
        return sum.min(java.math.BigInteger.valueOf(1_000_000_000_000L)).longValue();
    }

    int apart(int first, int second, int k) {
        needSlot(first, second);
        for (int length = 0; length <= 8; length++) {
            long[] a = costsByLength(slots[first], length);
            long[] b = costsByLength(slots[second], length);
            for (int i = 0; i < a.length; i++) {
                if (a[i] != b[i]) {
                    if (k < -1 || k >= length) {
                        return -1;
                    }
                    return k == -1 ? length : (i >> (2 * (length - 1 - k)) & 3) + 1;
                }
            }
        }
        return -1;
    }

    int twins(int slot) {
        needSlot(slot);
        return partingOf(slot) == null ? 1 : 0;
    }

    long parting(int slot, int what) {
        needSlot(slot);
        needRange(what, 0, 4);
        Parting p = partingOf(slot);
        if (p == null) {
            return -1;
        }
        return new long[] {p.p, p.q, p.u.length(), p.v.length(), p.pays}[what];
    }

    int partingAt(int slot, int which, int k) {
        needSlot(slot);
        needRange(which, 0, 1);
        Parting p = partingOf(slot);
        String row = p == null ? "" : which == 0 ? p.u : p.v;
        return k < 0 || k >= row.length() ? -1 : row.charAt(k) - '0';
    }

    private Parting partingOf(int slot) {
        if (!slots[slot].plain()) {
            throw badState();
        }
        return new Parts(slots[slot]).find();
    }

    int ahead(int slot, int state) {
        needState(slot, state);
        return (int) aheadOf(slots[slot], state);
    }

    int merged(int slot, int state) {
        needState(slot, state);
        return kinds(slots[slot])[state];
    }

    boolean alike(int first, int second) {
        needSlot(first, second);
        return slots[first].told().equals(slots[second].told());
    }

    long print() {
        long h = 0;
        for (Made m : slots) {
            h = (h * 31 + m.states) * 31 + m.startCost;
            for (Arc a : m.arcs) {
                h = h * 31 + a.cost;
            }
        }
        return h;
    }

    int status(int what) {
        return what >= 0 && what <= 2 ? refused[what] : -1;
    }

    // ---- texts

    private static final class TextReader {
        private final String text;
        private int at;

        TextReader(String text) {
            this.text = text;
        }

        private String token() {
            while (at < text.length() && text.charAt(at) == ' ') {
                at++;
            }
            if (at == text.length()) {
                return "";
            }
            java.util.regex.Matcher m = java.util.regex.Pattern.compile("[a-z]+|[0-9]+|[\\x00-\\xff]",
                    java.util.regex.Pattern.DOTALL).matcher(text);
            if (!m.find(at) || m.start() != at) {
                throw new IllegalStateException("the oracle's own mistake");
            }
            return m.group();
        }

        private String next(String pattern) {
            String t = token();
            if (!t.matches(pattern)) {
                throw new Fault(1, at);
            }
            at += t.length();
            return t;
        }

        private int number(int low, int high) {
            String t = next("[0-9]+");
            java.math.BigInteger v = new java.math.BigInteger(t);
            if (v.compareTo(java.math.BigInteger.valueOf(low)) < 0
                    || v.compareTo(java.math.BigInteger.valueOf(high)) > 0) {
                throw new Fault(2, at - t.length());
            }
            return v.intValue();
        }

        Made machine() {
            next("states");
            Made m = new Made();
            m.states = number(1, 12);
            next(";");
            while (!token().isEmpty()) {
                String w = next("start|final|arc");
                if (w.equals("start")) {
                    m.startCost = number(0, 999);
                } else if (w.equals("final")) {
                    int q = number(0, m.states - 1);
                    m.finals.put(q, (long) number(0, 999));
                } else {
                    if (m.arcs.size() == 30) {
                        throw new Fault(3, at - 3);
                    }
                    int q = number(0, m.states - 1);
                    int r = number(0, m.states - 1);
                    int x = "-abcd".indexOf(next("[-abcd]"));
                    int y = "-abcd".indexOf(next("[-abcd]"));
                    m.arcs.add(new Arc(q, r, x, y, number(0, 999)));
                }
                next(";");
            }
            return m;
        }
    }

    // ---- reach, ahead, least path

    private static Set<Integer> closure(Made m, Set<Integer> start, boolean backward) {
        Set<Integer> seen = new HashSet<>(start);
        ArrayDeque<Integer> open = new ArrayDeque<>(start);
        while (!open.isEmpty()) {
            int s = open.poll();
            for (Arc a : m.arcs) {
                int f = backward ? a.to : a.from;
                int t = backward ? a.from : a.to;
                if (f == s && seen.add(t)) {
                    open.add(t);
                }
            }
        }
        return seen;
    }

    private static Set<Integer> useful(Made m) {
        Set<Integer> both = closure(m, Set.of(0), false);
        both.retainAll(closure(m, m.finals.keySet(), true));
        return both;
    }

    /** Dijkstra, the plain way. */
    private static long aheadOf(Made m, int state) {
        long[] dist = new long[m.states];
        boolean[] fixed = new boolean[m.states];
        Arrays.fill(dist, Long.MAX_VALUE);
        dist[state] = 0;
        long best = -1;
        for (int round = 0; round < m.states; round++) {
            int s = -1;
            for (int i = 0; i < m.states; i++) {
                if (!fixed[i] && dist[i] != Long.MAX_VALUE && (s < 0 || dist[i] < dist[s])) {
                    s = i;
                }
            }
            if (s < 0) {
                break;
            }
            fixed[s] = true;
            if (m.finals.containsKey(s)) {
                long whole = dist[s] + m.finals.get(s);
                best = best < 0 ? whole : Math.min(best, whole);
            }
            for (Arc a : m.arcs) {
                if (a.from == s) {
                    dist[a.to] = Math.min(dist[a.to], dist[s] + a.cost);
                }
            }
        }
        return best;
    }

    /** By number of arcs: of each state the least cost of a row of so many arcs there, and the first such row. */
    private static List<Integer> leastPath(Made m) {
        long want = aheadOf(m, 0);
        if (want < 0) {
            return null;
        }
        for (int arcs = 0; arcs <= m.states; arcs++) {
            // rest[j][s]: least cost from s to an end in exactly j arcs
            long[][] rest = new long[arcs + 1][m.states];
            for (int s = 0; s < m.states; s++) {
                rest[0][s] = m.finals.getOrDefault(s, -1L);
            }
            for (int j = 1; j <= arcs; j++) {
                Arrays.fill(rest[j], -1);
                for (Arc a : m.arcs) {
                    if (rest[j - 1][a.to] >= 0) {
                        long c = rest[j - 1][a.to] + a.cost;
                        rest[j][a.from] = rest[j][a.from] < 0 ? c : Math.min(c, rest[j][a.from]);
                    }
                }
            }
            if (rest[arcs][0] == want) {
                List<Integer> row = new ArrayList<>();
                int s = 0;
                for (int j = arcs; j > 0; j--) {
                    for (int i = 0; i < m.arcs.size(); i++) {
                        Arc a = m.arcs.get(i);
                        if (a.from == s && rest[j - 1][a.to] >= 0 && rest[j - 1][a.to] + a.cost == rest[j][s]) {
                            row.add(i);
                            s = a.to;
                            break;
                        }
                    }
                }
                return row;
            }
        }
        throw new IllegalStateException("the oracle's own mistake");
    }

    // ---- words

    private static void settle(Made m, long[] row, boolean outsToo) {
        boolean changed = true;
        while (changed) {
            changed = false;
            for (Arc a : m.arcs) {
                if (a.in == 0 && (!outsToo || a.out == 0) && row[a.from] >= 0
                        && (row[a.to] < 0 || row[a.from] + a.cost < row[a.to])) {
                    row[a.to] = row[a.from] + a.cost;
                    changed = true;
                }
            }
        }
    }

    private static long[] startRow(Made m) {
        long[] row = new long[m.states];
        Arrays.fill(row, -1);
        row[0] = m.startCost;
        settle(m, row, false);
        return row;
    }

    private static long[] stepRow(Made m, long[] row, int letter) {
        long[] next = new long[m.states];
        Arrays.fill(next, -1);
        for (Arc a : m.arcs) {
            if (a.in == letter && row[a.from] >= 0 && (next[a.to] < 0 || row[a.from] + a.cost < next[a.to])) {
                next[a.to] = row[a.from] + a.cost;
            }
        }
        settle(m, next, false);
        return next;
    }

    private static long endOf(Made m, long[] row) {
        long best = -1;
        for (int s : m.finals.keySet()) {
            if (row[s] >= 0 && (best < 0 || row[s] + m.finals.get(s) < best)) {
                best = row[s] + m.finals.get(s);
            }
        }
        return best;
    }

    private static long costOf(Made m, String word) {
        long[] row = startRow(m);
        for (char c : word.toCharArray()) {
            row = stepRow(m, row, c - 'a' + 1);
        }
        return endOf(m, row);
    }

    /** The costs of all words of a length, by letters. */
    private static long[] costsByLength(Made m, int length) {
        long[] costs = new long[1 << 2 * length];
        Arrays.fill(costs, -1);
        fillCosts(m, startRow(m), length, 0, costs);
        return costs;
    }

    private static void fillCosts(Made m, long[] row, int left, int index, long[] costs) {
        boolean dead = true;
        for (long v : row) {
            dead &= v < 0;
        }
        if (dead) {
            return;
        }
        if (left == 0) {
            costs[index] = endOf(m, row);
            return;
        }
        for (int x = 1; x <= 4; x++) {
            fillCosts(m, stepRow(m, row, x), left - 1, index * 4 + x - 1, costs);
        }
    }

    /** Rounds over all (letters read, letters written, state) until nothing gets less. */
    private static long costOfCouple(Made m, String in, String out) {
        Map<String, Long> dist = new HashMap<>();
        dist.put("0,0,0", m.startCost);
        ArrayDeque<String> open = new ArrayDeque<>(dist.keySet());
        while (!open.isEmpty()) {
            String key = open.poll();
            String[] parts = key.split(",");
            int i = Integer.parseInt(parts[0]);
            int j = Integer.parseInt(parts[1]);
            int s = Integer.parseInt(parts[2]);
            long d = dist.get(key);
            for (Arc a : m.arcs) {
                if (a.from != s || a.in != 0 && (i >= in.length() || in.charAt(i) - 'a' + 1 != a.in)
                        || a.out != 0 && (j >= out.length() || out.charAt(j) - 'a' + 1 != a.out)) {
                    continue;
                }
                String to = (a.in == 0 ? i : i + 1) + "," + (a.out == 0 ? j : j + 1) + "," + a.to;
                if (!dist.containsKey(to) || dist.get(to) > d + a.cost) {
                    dist.put(to, d + a.cost);
                    open.add(to);
                }
            }
        }
        long best = -1;
        for (int s : m.finals.keySet()) {
            Long d = dist.get(in.length() + "," + out.length() + "," + s);
            if (d != null && (best < 0 || d + m.finals.get(s) < best)) {
                best = d + m.finals.get(s);
            }
        }
        return best;
    }

    // ---- making of one

    private static Made makeOf(int what, Made m) {
        switch (what) {
            case 0: return trimmed(m);
            case 1: return sided(m, true);
            case 2: return sided(m, false);
            case 3: return turned(m);
            case 4: return free(m);
            case 5: return determined(m);
            case 6: return pushed(m);
            default: return mergedOf(m);
        }
    }

    private static Made trimmed(Made m) {
        Set<Integer> useful = useful(m);
        Map<Integer, Integer> number = new HashMap<>();
        for (int s = 0; s < m.states; s++) {
            if (s == 0 || useful.contains(s)) {
                number.put(s, number.size());
            }
        }
        Made r = new Made();
        r.states = number.size();
        r.startCost = m.startCost;
        m.finals.forEach((s, c) -> {
            if (number.containsKey(s)) {
                r.finals.put(number.get(s), c);
            }
        });
        for (Arc a : m.arcs) {
            if (useful.contains(a.from) && useful.contains(a.to)) {
                r.arcs.add(new Arc(number.get(a.from), number.get(a.to), a.in, a.out, a.cost));
            }
        }
        return r;
    }

    private static Made sided(Made m, boolean ins) {
        Made r = new Made();
        r.states = m.states;
        r.startCost = m.startCost;
        r.finals.putAll(m.finals);
        for (Arc a : m.arcs) {
            int x = ins ? a.in : a.out;
            r.arcs.add(new Arc(a.from, a.to, x, x, a.cost));
        }
        return r;
    }

    private static Made turned(Made m) {
        Made r = new Made();
        r.states = m.states + 1;
        r.startCost = m.startCost;
        r.finals.put(1, 0L);
        m.finals.forEach((s, c) -> r.arcs.add(new Arc(0, s + 1, 0, 0, c)));
        for (Arc a : m.arcs) {
            r.arcs.add(new Arc(a.to + 1, a.from + 1, a.in, a.out, a.cost));
        }
        return r;
    }

    private static Made free(Made m) {
        Made r = new Made();
        r.states = m.states;
        r.startCost = m.startCost;
        for (int p = 0; p < m.states; p++) {
            long[] row = new long[m.states];
            Arrays.fill(row, -1);
            row[p] = 0;
            settle(m, row, true);
            long end = endOf(m, row);
            if (end >= 0) {
                r.finals.put(p, end);
            }
            for (int x = 1; x <= 4; x++) {
                for (int t = 0; t < m.states; t++) {
                    long best = -1;
                    for (Arc a : m.arcs) {
                        if (a.in == x && a.to == t && row[a.from] >= 0
                                && (best < 0 || row[a.from] + a.cost < best)) {
                            best = row[a.from] + a.cost;
                        }
                    }
                    if (best >= 0) {
                        r.arcs.add(new Arc(p, t, x, x, best));
                    }
                }
            }
        }
        return r;
    }

    private static Made determined(Made m) {
        Made r = new Made();
        r.startCost = m.startCost;
        List<TreeMap<Integer, Long>> rows = new ArrayList<>();
        TreeMap<Integer, Long> start = new TreeMap<>();
        start.put(0, 0L);
        rows.add(start);
        for (int i = 0; i < rows.size(); i++) {
            if (rows.size() > 40) {
                return null;
            }
            TreeMap<Integer, Long> row = rows.get(i);
            long end = Long.MAX_VALUE;
            for (Map.Entry<Integer, Long> e : row.entrySet()) {
                if (m.finals.containsKey(e.getKey())) {
                    end = Math.min(end, e.getValue() + m.finals.get(e.getKey()));
                }
            }
            if (end != Long.MAX_VALUE) {
                r.finals.put(i, end);
            }
            for (int x = 1; x <= 4; x++) {
                TreeMap<Integer, Long> next = new TreeMap<>();
                for (Arc a : m.arcs) {
                    if (a.in == x && row.containsKey(a.from)) {
                        next.merge(a.to, row.get(a.from) + a.cost, Math::min);
                    }
                }
                if (next.isEmpty()) {
                    continue;
                }
                long least = next.values().stream().min(Long::compare).get();
                next.replaceAll((s, c) -> c - least);
                if (!rows.contains(next)) {
                    rows.add(next);
                }
                r.arcs.add(new Arc(i, rows.indexOf(next), x, x, least));
            }
        }
        r.states = rows.size();
        return r;
    }

    private static Made pushed(Made m) {
        Made t = trimmed(m);
        if (aheadOf(t, 0) < 0) {
            return t;
        }
        Made r = new Made();
        r.states = t.states;
        r.startCost = t.startCost + aheadOf(t, 0);
        for (Arc a : t.arcs) {
            r.arcs.add(new Arc(a.from, a.to, a.in, a.out, a.cost + aheadOf(t, a.to) - aheadOf(t, a.from)));
        }
        t.finals.forEach((s, c) -> r.finals.put(s, c - aheadOf(t, s)));
        return r;
    }

    /** By marking couples of states that are unlike until none is marked any more. */
    private static int[] kinds(Made m) {
        boolean[][] unlike = new boolean[m.states][m.states];
        for (int s = 0; s < m.states; s++) {
            for (int t = 0; t < m.states; t++) {
                unlike[s][t] = !m.finals.getOrDefault(s, -1L).equals(m.finals.getOrDefault(t, -1L));
            }
        }
        boolean changed = true;
        while (changed) {
            changed = false;
            for (int s = 0; s < m.states; s++) {
                for (int t = 0; t < m.states; t++) {
                    if (!unlike[s][t] && !(covers(m, s, t, unlike) && covers(m, t, s, unlike))) {
                        unlike[s][t] = true;
                        changed = true;
                    }
                }
            }
        }
        int[] kind = new int[m.states];
        int count = 0;
        for (int s = 0; s < m.states; s++) {
            kind[s] = -1;
            for (int t = 0; t < s && kind[s] < 0; t++) {
                if (!unlike[s][t]) {
                    kind[s] = kind[t];
                }
            }
            if (kind[s] < 0) {
                kind[s] = count++;
            }
        }
        return kind;
    }

    private static boolean covers(Made m, int s, int t, boolean[][] unlike) {
        for (Arc a : m.arcs) {
            if (a.from == s && m.arcs.stream().noneMatch(b -> b.from == t && b.in == a.in && b.out == a.out
                    && b.cost == a.cost && !unlike[a.to][b.to])) {
                return false;
            }
        }
        return true;
    }

    private static Made mergedOf(Made m) {
        int[] kind = kinds(m);
        Made r = new Made();
        r.startCost = m.startCost;
        Map<Integer, Integer> leastOf = new HashMap<>();
        for (int s = 0; s < m.states; s++) {
            leastOf.putIfAbsent(kind[s], s);
        }
        r.states = leastOf.size();
        leastOf.forEach((k, s) -> {
            if (m.finals.containsKey(s)) {
                r.finals.put(k, m.finals.get(s));
            }
        });
        Set<String> seen = new HashSet<>();
        for (Arc a : m.arcs) {
            String told = kind[a.from] + "," + kind[a.to] + "," + a.in + "," + a.out + "," + a.cost;
            if (leastOf.get(kind[a.from]) == a.from && seen.add(told)) {
                r.arcs.add(new Arc(kind[a.from], kind[a.to], a.in, a.out, a.cost));
            }
        }
        return r;
    }

    // ---- making of two

    private static Made either(Made a, Made b) {
        Made r = new Made();
        r.states = 1 + a.states + b.states;
        r.arcs.add(new Arc(0, 1, 0, 0, a.startCost));
        r.arcs.add(new Arc(0, 1 + a.states, 0, 0, b.startCost));
        a.arcs.forEach(e -> r.arcs.add(new Arc(e.from + 1, e.to + 1, e.in, e.out, e.cost)));
        int k = 1 + a.states;
        b.arcs.forEach(e -> r.arcs.add(new Arc(e.from + k, e.to + k, e.in, e.out, e.cost)));
        a.finals.forEach((s, c) -> r.finals.put(s + 1, c));
        b.finals.forEach((s, c) -> r.finals.put(s + k, c));
        return r;
    }

    private static Made then(Made a, Made b) {
        Made r = new Made();
        r.states = a.states + b.states;
        r.startCost = a.startCost;
        r.arcs.addAll(a.arcs);
        a.finals.forEach((s, c) -> r.arcs.add(new Arc(s, a.states, 0, 0, c + b.startCost)));
        b.arcs.forEach(e -> r.arcs.add(new Arc(e.from + a.states, e.to + a.states, e.in, e.out, e.cost)));
        b.finals.forEach((s, c) -> r.finals.put(s + a.states, c));
        return r;
    }

    private static Made behind(Made a, Made b) {
        Made r = new Made();
        r.startCost = a.startCost + b.startCost;
        List<List<Integer>> states = new ArrayList<>();
        states.add(List.of(0, 0, 0));
        for (int i = 0; i < states.size(); i++) {
            if (states.size() > 40) {
                return null;
            }
            int p = states.get(i).get(0);
            int q = states.get(i).get(1);
            int f = states.get(i).get(2);
            if (a.finals.containsKey(p) && b.finals.containsKey(q)) {
                r.finals.put(i, a.finals.get(p) + b.finals.get(q));
            }
            for (Arc e : a.arcs) {
                if (e.from != p) {
                    continue;
                }
                for (Arc g : b.arcs) {
                    boolean letter = e.out != 0 && e.out == g.in;
                    boolean silent = e.out == 0 && g.in == 0 && f == 0;
                    if (g.from == q && (letter || silent)) {
                        r.arcs.add(new Arc(i, index(states, e.to, g.to, 0), e.in, g.out, e.cost + g.cost));
                    }
                }
                if (e.out == 0 && f != 2) {
                    r.arcs.add(new Arc(i, index(states, e.to, q, 1), e.in, 0, e.cost));
                }
            }
            for (Arc g : b.arcs) {
                if (g.from == q && g.in == 0 && f != 1) {
                    r.arcs.add(new Arc(i, index(states, p, g.to, 2), 0, g.out, g.cost));
                }
            }
        }
        r.states = states.size();
        return r;
    }

    private static int index(List<List<Integer>> states, int p, int q, int f) {
        List<Integer> key = List.of(p, q, f);
        if (!states.contains(key)) {
            states.add(key);
        }
        return states.indexOf(key);
    }

    // ---- couples

    static final class Parting {
        int p;
        int q;
        String u;
        String v;
        long pays;
    }

    /** The third part of the document, couple by couple, with words kept whole. */
    private static final class Parts {
        private final Made m;
        private final List<List<Arc>> leaving = new ArrayList<>();
        private final List<List<Arc>> ending = new ArrayList<>();

        Parts(Made m) {
            this.m = m;
            for (int s = 0; s < m.states; s++) {
                int state = s;
                leaving.add(m.arcs.stream().filter(a -> a.from == state).toList());
                ending.add(m.arcs.stream().filter(a -> a.to == state).toList());
            }
        }

        private static final class Known {
            final List<Integer> order = new ArrayList<>();
            final Map<Integer, String> word = new HashMap<>();
            final Map<Integer, Long> pays = new HashMap<>();

            void add(int couple, String w, long p) {
                if (word.putIfAbsent(couple, w) == null) {
                    order.add(couple);
                    pays.put(couple, p);
                }
            }
        }

        private Known onward(int p, int q) {
            Known k = new Known();
            k.add(p * 100 + q, "", 0);
            for (int i = 0; i < k.order.size(); i++) {
                int x = k.order.get(i);
                for (Arc e : leaving.get(x / 100)) {
                    for (Arc g : leaving.get(x % 100)) {
                        if (e.in == g.in) {
                            k.add(e.to * 100 + g.to, k.word.get(x) + e.in, k.pays.get(x) + e.cost - g.cost);
                        }
                    }
                }
            }
            return k;
        }

        private Known back(int p, int q) {
            Known k = new Known();
            k.add(p * 100 + q, "", 0);
            for (int i = 0; i < k.order.size(); i++) {
                int x = k.order.get(i);
                for (Arc e : ending.get(x / 100)) {
                    for (Arc g : ending.get(x % 100)) {
                        if (e.in == g.in) {
                            k.add(e.from * 100 + g.from, e.in + k.word.get(x), k.pays.get(x) + e.cost - g.cost);
                        }
                    }
                }
            }
            return k;
        }

        Parting find() {
            Known all = onward(0, 0);
            for (int p = 0; p < m.states; p++) {
                for (int q = 0; q < m.states; q++) {
                    if (all.word.containsKey(p * 100 + q)) {
                        Parting found = at(p, q);
                        if (found != null) {
                            found.u = all.word.get(p * 100 + q);
                            return found;
                        }
                    }
                }
            }
            return null;
        }

        private Parting at(int p, int q) {
            Known on = onward(p, q);
            Known back = back(p, q);
            for (int x : on.order) {
                for (Arc e : leaving.get(x / 100)) {
                    for (Arc g : leaving.get(x % 100)) {
                        int y = e.to * 100 + g.to;
                        if (e.in != g.in || !back.word.containsKey(y)
                                || on.pays.get(x) + e.cost - g.cost == on.pays.get(y)) {
                            continue;
                        }
                        Parting r = new Parting();
                        r.p = p;
                        r.q = q;
                        r.v = on.word.get(x) + e.in + back.word.get(y);
                        r.pays = on.pays.get(x) + e.cost - g.cost + back.pays.get(y);
                        if (r.pays == 0) {
                            r.v = on.word.get(y) + back.word.get(y);
                            r.pays = on.pays.get(y) + back.pays.get(y);
                        }
                        if (r.pays == 0) {
                            throw new IllegalStateException("the oracle's own mistake");
                        }
                        return r;
                    }
                }
            }
            return null;
        }
    }
}
