import java.util.NoSuchElementException;
import java.util.Random;

/** Calls with any arguments, in any state: nothing but the document's refusals, each counted once, changing nothing. */
public final class HostileCallsTest {
    private static final int[] EDGES = {Integer.MIN_VALUE, -2, -1, 0, 1, 2, 3, 4, 5, 6, 7, 8, 9, 10, 11, 12, 19, 20, 21,
        29, 30, 31, 39, 40, 41, 119, 120, 121, 399, 400, 401, 1000000, Integer.MAX_VALUE};
    private static int wrong = 0;
    private static long calls = 0;

    private HostileCallsTest() {
    }

    private static int any(Random r) {
        return r.nextInt(8) == 0 ? r.nextInt() : EDGES[r.nextInt(EDGES.length)];
    }

    /** Mostly one that is there. */
    private static int slot(Random r) {
        return r.nextInt(10) == 0 ? any(r) : r.nextInt(6);
    }

    private static void call(CostBench b, Random r) {
        int s = slot(r);
        int t = slot(r);
        int k = any(r);
        switch (r.nextInt(25)) {
            case 0: b.feed(any(r), any(r), any(r), any(r), any(r)); break;
            case 1: b.text(s, k); break;
            case 2: b.fault(); break;
            case 3: b.make(r.nextInt(6) == 0 ? k : r.nextInt(8), s, t); break;
            case 4: b.join(r.nextInt(6) == 0 ? k : 8 + r.nextInt(3), s, t, slot(r)); break;
            case 5: if (r.nextInt(4) == 0) { b.undo(); } break;
            case 6: b.told(s, k); break;
            case 7: b.arc(s, k, any(r)); break;
            case 8: b.last(s, k); break;
            case 9: b.least(s); break;
            case 10: b.path(s, k); break;
            case 11: b.word(s, k); break;
            case 12: b.couple(s, k); break;
            case 13: b.words(s, k); break;
            case 14: b.worst(s, k, any(r)); break;
            case 15: b.paths(s, k); break;
            case 16: b.apart(s, t, k); break;
            case 17: b.twins(s); break;
            case 18: b.parting(s, k); break;
            case 19: b.partingAt(s, any(r), k); break;
            case 20: b.ahead(s, k); break;
            case 21: b.merged(s, k); break;
            case 22: b.alike(s, t); break;
            case 23: b.print(); break;
            default: b.status(k); break;
        }
    }

    private static long counted(CostBench b) {
        return b.status(0) * 1000000L + b.status(1) * 1000L + b.status(2);
    }

    private static void one(CostBench b, Random r, String where) {
        long print = b.print();
        long counts = counted(b);
        int tape = b.told(0, 9);
        int acts = b.told(0, 10);
        int fault = b.fault();
        long more = 0;
        calls++;
        try {
            call(b, r);
        } catch (RuntimeException e) {
            more = e.getClass() == NoSuchElementException.class ? 1000000L
                    : e.getClass() == IllegalArgumentException.class ? 1000L
                    : e.getClass() == IllegalStateException.class ? 1L : -1L;
            if (more == -1 || b.print() != print || b.told(0, 9) != tape || b.told(0, 10) != acts
                    || b.fault() != fault) {
                wrong++;
                System.out.println(where + ": " + e + " or a refusal that changed something");
                e.printStackTrace(System.out);
            }
        }
        if (counted(b) != counts + more) {
            wrong++;
            System.out.println(where + ": refusals counted " + counts + " then " + counted(b));
        }
    }

    private static String machineText(Random r) {
        int states = 1 + r.nextInt(12);
        int silent = r.nextInt(3);
        StringBuilder b = new StringBuilder("states " + states + ";final " + r.nextInt(states) + " 1;");
        while (b.length() < 380) {
            char x = r.nextInt(4) < silent ? '-' : (char) ('a' + r.nextInt(4));
            char y = silent == 2 ? (char) ('a' + r.nextInt(4)) : x;
            b.append("arc").append(r.nextInt(states)).append(' ').append(r.nextInt(states)).append(x).append(' ')
                    .append(y).append(r.nextInt(3)).append(';');
        }
        return b.toString();
    }

    public static void main(String[] args) {
        for (int seed = 1; seed <= 300; seed++) {
            Random r = new Random(seed);
            CostBench b = new CostBench();
            for (int s = 0; s < 5; s++) {
                Check.load(b, s, machineText(r));
            }
            for (int i = 0; i < 450; i++) {
                one(b, r, "seed " + seed + ", call " + i);
            }
        }
        System.out.println(calls + " hostile calls, " + wrong + " wrong");
        if (wrong != 0) {
            System.exit(1);
        }
    }
}
