import java.nio.charset.StandardCharsets;
import java.util.NoSuchElementException;

/** What the tests share: counting wrong answers, and putting texts on the tape. */
final class Check {
    interface Call {
        long run();
    }

    private static int wrong = 0;
    private static int asked = 0;

    private Check() {
    }

    static void due(String told, long got, long want) {
        asked++;
        if (got != want) {
            wrong++;
            System.out.println(told + " answered " + got + ", due is " + want);
        }
    }

    private static String thrown(Call call) {
        try {
            return "nothing, answering " + call.run();
        } catch (RuntimeException e) {
            return e.getClass().getSimpleName();
        }
    }

    private static void refused(String told, Call call, Class<? extends RuntimeException> want) {
        asked++;
        String got = thrown(call);
        if (!got.equals(want.getSimpleName())) {
            wrong++;
            System.out.println(told + " throws " + got + ", due is " + want.getSimpleName());
        }
    }

    static void noSuch(String told, Call call) {
        refused(told, call, NoSuchElementException.class);
    }

    static void badArgument(String told, Call call) {
        refused(told, call, IllegalArgumentException.class);
    }

    static void badState(String told, Call call) {
        refused(told, call, IllegalStateException.class);
    }

    /** Puts a text on the tape, the last twenty filled up with zero bytes. */
    static void put(CostBench bench, String text) {
        byte[] bytes = text.getBytes(StandardCharsets.ISO_8859_1);
        for (int i = 0; i < bytes.length; i += 20) {
            int[] v = new int[5];
            for (int j = 0; j < 20; j++) {
                v[j / 4] = v[j / 4] << 8 | (i + j < bytes.length ? bytes[i + j] & 255 : 0);
            }
            bench.feed(v[0], v[1], v[2], v[3], v[4]);
        }
    }

    static int load(CostBench bench, int slot, String text) {
        put(bench, text);
        return bench.text(slot, text.length());
    }

    static int word(CostBench bench, int slot, String word) {
        put(bench, word);
        return bench.word(slot, word.length());
    }

    static int couple(CostBench bench, int slot, String words) {
        put(bench, words);
        return bench.couple(slot, words.length());
    }

    /** A machine as a text: states, start cost, final costs, arcs. */
    static String told(CostBench bench, int slot) {
        StringBuilder b = new StringBuilder();
        b.append(bench.told(slot, 0)).append(" start ").append(bench.told(slot, 2)).append(" final");
        for (int s = 0; s < bench.told(slot, 0); s++) {
            if (bench.last(slot, s) != -1) {
                b.append(' ').append(s).append('=').append(bench.last(slot, s));
            }
        }
        for (int a = 0; a < bench.told(slot, 1); a++) {
            b.append("; ").append(bench.arc(slot, a, 0)).append('>').append(bench.arc(slot, a, 1)).append(' ')
                    .append("-abcd".charAt(bench.arc(slot, a, 2))).append("-abcd".charAt(bench.arc(slot, a, 3)))
                    .append(bench.arc(slot, a, 4));
        }
        return b.toString();
    }

    static void machine(String what, CostBench bench, int slot, String want) {
        asked++;
        String got = told(bench, slot);
        if (!got.equals(want)) {
            wrong++;
            System.out.println(what + ": slot " + slot + " has  " + got + "\n  due is " + want);
        }
    }

    /** All six machines. */
    static String machines(CostBench bench) {
        StringBuilder b = new StringBuilder();
        for (int s = 0; s < 6; s++) {
            b.append(s).append(": ").append(told(bench, s)).append('\n');
        }
        return b.toString();
    }

    /** All that can be asked for and that a refused call must not change; refusals themselves are counted apart. */
    static String all(CostBench bench) {
        return machines(bench) + "tape " + bench.told(0, 9) + ", acts " + bench.told(0, 10) + ", fault " + bench.fault()
                + ", print " + bench.print();
    }

    static void same(String what, String got, String want) {
        asked++;
        if (!got.equals(want)) {
            wrong++;
            System.out.println(what + ": is\n" + got + "\n  due is\n" + want);
        }
    }

    static void end() {
        System.out.println(wrong == 0 ? asked + " answers as due" : wrong + " of " + asked + " answers not as due");
        if (wrong != 0) {
            System.exit(1);
        }
    }
}
