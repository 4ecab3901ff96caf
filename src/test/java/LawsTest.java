import java.util.ArrayList;
import java.util.HashSet;
import java.util.List;
import java.util.Random;
import java.util.Set;

/**
 * What must hold whatever the machines are: a machine made of another gives words the costs that the other gives, or
 * that follow from the others'; what is told in two ways is the same. Nothing here is worked out as the class does.
 */
public final class LawsTest {
    private static final int NONE = -1;
    private final Random random;
    private final CostBench bench = new CostBench();
    private final String name;

    private LawsTest(int seed) {
        random = new Random(seed);
        name = "laws " + seed;
    }

    private static final int PLAIN = 0;
    private static final int ACCEPTOR = 1;
    private static final int ANY = 2;

    /** A text of a machine; without ways round, if asked: then no path has as many arcs as there are states. */
    private String text(int kind, int states, int arcs, boolean wayless) {
        StringBuilder b = new StringBuilder("states " + states + ";start " + random.nextInt(4) + ";");
        for (int i = 0; i < 2; i++) {
            b.append("final ").append(random.nextInt(states)).append(' ').append(random.nextInt(4)).append(';');
        }
        for (int i = 0; i < arcs; i++) {
            int p = random.nextInt(states);
            int q = random.nextInt(states);
            if (wayless && p == q) {
                continue;
            }
            char x = sign(kind);
            char y = kind == ANY ? sign(kind) : x;
            b.append("arc ").append(wayless ? Math.min(p, q) : p).append(' ').append(wayless ? Math.max(p, q) : q)
                    .append(x).append(' ').append(y).append(random.nextInt(4)).append(';');
        }
        return b.toString();
    }

    private char sign(int kind) {
        return kind != PLAIN && random.nextInt(3) == 0 ? '-' : (char) ('a' + random.nextInt(2));
    }

    private void due(String what, long got, long want) {
        Check.due(name + ", " + what, got, want);
    }

    /** False if it was refused as too large. */
    private boolean made(int what, int slot, int to) {
        try {
            bench.make(what, slot, to);
            return true;
        } catch (IllegalStateException e) {
            return false;
        }
    }

    private boolean joined(int what, int first, int second, int to) {
        try {
            bench.join(what, first, second, to);
            return true;
        } catch (IllegalStateException e) {
            return false;
        }
    }

    private static List<String> words(int most) {
        List<String> all = new ArrayList<>(List.of(""));
        for (int i = 0; i < all.size() && all.get(i).length() < most; i++) {
            all.add(all.get(i) + "a");
            all.add(all.get(i) + "b");
        }
        return all;
    }

    private static int lesser(int a, int b) {
        return a == NONE || (b != NONE && b < a) ? b : a;
    }

    private static int sum(int a, int b) {
        return a == NONE || b == NONE ? NONE : a + b;
    }

    // ---- what is made of one gives each word its cost, and is not changed by being made again

    private void madeOfOne(int kind) {
        Check.load(bench, 0, text(kind, 1 + random.nextInt(5), random.nextInt(12), false));
        int[] keeps = {0, 1, 6, 7, 4, 5};
        int many = kind == ANY ? 4 : kind == ACCEPTOR ? 5 : 6;
        for (int i = 0; i < many; i++) {
            if (!made(keeps[i], 0, 1)) {
                continue;
            }
            due("make " + keeps[i] + " keeps costs", bench.apart(0, 1, NONE), NONE);
            if (made(keeps[i], 1, 2)) {
                due("make " + keeps[i] + " twice is once", bench.alike(1, 2) ? 1 : 0, 1);
            }
        }
        if (kind != ANY && made(4, 0, 1)) {
            due("FREE is plain", bench.told(1, 4), 1);
        }
        if (kind == PLAIN && made(5, 0, 1)) {
            due("ONE-WAY is one-way", bench.told(1, 5), 1);
            due("ONE-WAY is twins", bench.twins(1), 1);
        }
        turned();
        pushed();
        mergedApart();
    }

    private void turned() {
        bench.make(3, 0, 1);
        due("TURNED has the least cost", bench.least(1), bench.least(0));
        for (String w : words(3)) {
            String back = new StringBuilder(w).reverse().toString();
            due("TURNED, word " + w, Check.word(bench, 1, back), Check.word(bench, 0, w));
            due("TURNED, couple " + w + ":a", Check.couple(bench, 1, back + ":a"), Check.couple(bench, 0, w + ":a"));
        }
        bench.make(3, 1, 1);
        due("TURNED twice", bench.apart(0, 1, NONE), NONE);
    }

    private void pushed() {
        if (!made(6, 0, 1) || bench.least(0) == NONE) {
            return;
        }
        due("PUSHED, the start cost", bench.told(1, 2), bench.least(0));
        due("PUSHED, states", bench.told(1, 0), bench.told(0, 8));
        for (int s = 0; s < bench.told(1, 0); s++) {
            due("PUSHED, ahead of " + s, bench.ahead(1, s), 0);
        }
    }

    private void mergedApart() {
        if (!made(7, 0, 1)) {
            return;
        }
        for (int s = 0; s < bench.told(1, 0); s++) {
            due("MERGED, no two alike", bench.merged(1, s), s);
        }
        for (int s = 0; s < bench.told(0, 0); s++) {
            due("MERGED, final cost of " + s, bench.last(1, bench.merged(0, s)), bench.last(0, s));
            due("MERGED, ahead of " + s, bench.ahead(1, bench.merged(0, s)), bench.ahead(0, s));
        }
    }

    // ---- what is made of two

    private void madeOfTwo() {
        Check.load(bench, 0, text(ANY, 1 + random.nextInt(4), random.nextInt(9), false));
        Check.load(bench, 1, text(ANY, 1 + random.nextInt(4), random.nextInt(9), false));
        bench.join(9, 0, 1, 2);
        bench.join(10, 0, 1, 3);
        due("EITHER, the least", bench.least(2), lesser(bench.least(0), bench.least(1)));
        due("THEN, the least", bench.least(3), sum(bench.least(0), bench.least(1)));
        for (String w : words(3)) {
            due("EITHER " + w, Check.word(bench, 2, w), lesser(Check.word(bench, 0, w), Check.word(bench, 1, w)));
            int least = NONE;
            for (int cut = 0; cut <= w.length(); cut++) {
                least = lesser(least, sum(Check.word(bench, 0, w.substring(0, cut)),
                        Check.word(bench, 1, w.substring(cut))));
            }
            due("THEN " + w, Check.word(bench, 3, w), least);
        }
        for (int arcs = 0; arcs <= 4; arcs++) {
            long either = arcs == 0 ? 0 : bench.paths(0, arcs - 1) + bench.paths(1, arcs - 1);
            due("EITHER, paths of " + arcs, bench.paths(2, arcs), either);
            long then = 0;
            for (int i = 0; i < arcs; i++) {
                then += bench.paths(0, i) * bench.paths(1, arcs - 1 - i);
            }
            due("THEN, paths of " + arcs, bench.paths(3, arcs), then);
        }
    }

    /** Without ways round a path of four states writes three letters at most, so all words between are seen. */
    private void behind() {
        Check.load(bench, 0, text(ANY, 1 + random.nextInt(4), random.nextInt(12), true));
        Check.load(bench, 1, text(ANY, 1 + random.nextInt(4), random.nextInt(12), true));
        if (!joined(8, 0, 1, 2)) {
            return;
        }
        for (String x : words(2)) {
            for (String z : words(2)) {
                int least = NONE;
                for (String y : words(3)) {
                    int written = Check.couple(bench, 0, x + ":" + y);
                    least = lesser(least, sum(written, Check.couple(bench, 1, y + ":" + z)));
                }
                due("BEHIND " + x + ":" + z, Check.couple(bench, 2, x + ":" + z), least);
            }
        }
        long all = 0;
        for (int arcs = 0; arcs <= 6; arcs++) {
            all += bench.paths(2, arcs);
        }
        due("BEHIND, one path for each two that fit", all, fittingPaths());
    }

    private long fittingPaths() {
        List<String> written = new ArrayList<>();
        List<String> read = new ArrayList<>();
        walk(0, 0, "", 3, written);
        walk(1, 0, "", 2, read);
        long count = 0;
        for (String w : written) {
            for (String r : read) {
                count += w.equals(r) ? 1 : 0;
            }
        }
        return count;
    }

    private void walk(int slot, int state, String sofar, int side, List<String> into) {
        if (bench.last(slot, state) != NONE) {
            into.add(sofar);
        }
        for (int a = 0; a < bench.told(slot, 1); a++) {
            if (bench.arc(slot, a, 0) == state) {
                int letter = bench.arc(slot, a, side);
                walk(slot, bench.arc(slot, a, 1), letter == 0 ? sofar : sofar + letter, side, into);
            }
        }
    }

    // ---- what is asked in two ways

    private void asked() {
        Check.load(bench, 0, text(ANY, 1 + random.nextInt(6), random.nextInt(14), false));
        for (int n = 0; n <= 4; n++) {
            int count = 0;
            int least = NONE;
            int greatest = NONE;
            for (String w : words(4)) {
                int cost = w.length() == n ? Check.word(bench, 0, w) : NONE;
                count += cost == NONE ? 0 : 1;
                least = lesser(least, cost);
                greatest = Math.max(greatest, cost);
            }
            due("words of " + n, bench.words(0, n), count);
            due("the least of " + n, bench.worst(0, n, 0), least);
            due("the greatest of " + n, bench.worst(0, n, 1), greatest);
        }
        due("ahead of START", sum(bench.ahead(0, 0), bench.told(0, 2)), bench.least(0));
        leastPath();
    }

    private void leastPath() {
        int arcs = bench.path(0, NONE);
        due("a path if there is a least cost", arcs == NONE ? 0 : 1, bench.least(0) == NONE ? 0 : 1);
        if (arcs == NONE) {
            return;
        }
        int state = 0;
        int cost = bench.told(0, 2);
        for (int k = 0; k < arcs; k++) {
            int a = bench.path(0, k);
            due("the path goes on at " + k, bench.arc(0, a, 0), state);
            state = bench.arc(0, a, 1);
            cost += bench.arc(0, a, 4);
        }
        due("the path's cost", cost + bench.last(0, state), bench.least(0));
    }

    /** U leads to the couple, V leads round it, and two ways of V pay as unlike as it is told. */
    private void parting() {
        Check.load(bench, 0, text(PLAIN, 2 + random.nextInt(4), 4 + random.nextInt(8), false));
        if (bench.twins(0) == 1) {
            due("twins part nowhere", bench.parting(0, 0), NONE);
            return;
        }
        int p = (int) bench.parting(0, 0);
        int q = (int) bench.parting(0, 1);
        due("U leads there", ends(0, 0, 0).stream().anyMatch(e -> e[0] == p && e[1] == q) ? 1 : 0, 1);
        long pays = bench.parting(0, 4);
        due("V parts", pays == 0 ? 1 : 0, 0);
        boolean found = ends(1, p, q).stream().anyMatch(e -> e[0] == p && e[1] == q && e[2] == pays);
        due("V pays " + pays, found ? 1 : 0, 1);
    }

    /** The couples that U (0) or V (1) leads to, with all that the first may pay less the second. */
    private List<long[]> ends(int which, int p, int q) {
        List<long[]> now = List.of(new long[] {p, q, 0});
        for (int k = 0; bench.partingAt(0, which, k) != NONE; k++) {
            int letter = bench.partingAt(0, which, k);
            Set<List<Long>> seen = new HashSet<>();
            List<long[]> next = new ArrayList<>();
            for (long[] at : now) {
                for (long[] to : onward(at, letter)) {
                    if (seen.add(List.of(to[0], to[1], to[2]))) {
                        next.add(to);
                    }
                }
            }
            now = next;
        }
        return now;
    }

    private List<long[]> onward(long[] at, int letter) {
        List<long[]> found = new ArrayList<>();
        for (int e = 0; e < bench.told(0, 1); e++) {
            for (int g = 0; g < bench.told(0, 1); g++) {
                if (bench.arc(0, e, 0) == at[0] && bench.arc(0, g, 0) == at[1] && bench.arc(0, e, 2) == letter
                        && bench.arc(0, g, 2) == letter) {
                    found.add(new long[] {bench.arc(0, e, 1), bench.arc(0, g, 1),
                        at[2] + bench.arc(0, e, 4) - bench.arc(0, g, 4)});
                }
            }
        }
        return found;
    }

    public static void main(String[] args) {
        int runs = args.length > 0 ? Integer.parseInt(args[0]) : 300;
        for (int seed = 1; seed <= runs; seed++) {
            LawsTest laws = new LawsTest(seed);
            laws.madeOfOne(seed % 3);
            laws.madeOfTwo();
            laws.behind();
            laws.asked();
            laws.parting();
        }
        Check.end();
    }
}
