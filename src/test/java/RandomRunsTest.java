import java.nio.charset.StandardCharsets;
import java.util.NoSuchElementException;
import java.util.Random;

/** Runs of calls drawn from fixed seeds: CostBench and the Oracle must answer and refuse alike, call by call. */
public final class RandomRunsTest {
    private static int wrong = 0;
    private static long calls = 0;
    private static final long[] answered = new long[26];

    private CostBench bench;
    private Oracle oracle;
    private final Random random;
    private final StringBuilder log = new StringBuilder();
    private boolean broken;

    private RandomRunsTest(long seed) {
        random = new Random(seed);
        bench = new CostBench();
        oracle = new Oracle();
    }

    private interface Call {
        long run();
    }

    private static String answer(Call call) {
        try {
            return Long.toString(call.run());
        } catch (NoSuchElementException e) {
            return "NoSuchElementException";
        } catch (IllegalArgumentException e) {
            return "IllegalArgumentException";
        } catch (IllegalStateException e) {
            return "IllegalStateException";
        }
    }

    private String same(int promise, String told, Call mine, Call due) {
        if (broken) {
            return "";
        }
        String got = answer(mine);
        String want = answer(due);
        log.append(told).append(" -> ").append(want).append('\n');
        calls++;
        if (!want.endsWith("Exception") && !want.equals("-1")) {
            answered[promise - 1]++;
        }
        if (!got.equals(want)) {
            broken = true;
            wrong++;
            if (wrong <= 3) {
                System.out.println(log + "answered " + got);
            }
        }
        return want;
    }

    // ---- texts

    private int feedText(String text) {
        byte[] bytes = text.getBytes(StandardCharsets.ISO_8859_1);
        int fed = 0;
        for (int i = 0; i < bytes.length; i += 20) {
            int[] v = new int[5];
            for (int j = 0; j < 20; j++) {
                int b = i + j < bytes.length ? bytes[i + j] & 255 : 0;
                v[j / 4] = v[j / 4] << 8 | b;
            }
            same(2, "feed \"" + text.substring(i, Math.min(i + 20, bytes.length)) + "\"",
                    () -> bench.feed(v[0], v[1], v[2], v[3], v[4]), () -> oracle.feed(v[0], v[1], v[2], v[3], v[4]));
            fed += 20;
        }
        return fed;
    }

    private void clearTape() {
        same(13, "word(0, 0)", () -> bench.word(0, 0), () -> oracle.word(0, 0));
    }

    private String machineText() {
        int kind = random.nextInt(4);
        int letters = 1 + random.nextInt(4);
        int states = 1 + random.nextInt(random.nextInt(3) == 0 ? 12 : 5);
        int arcs = random.nextInt(random.nextInt(3) == 0 ? 26 : 2 * states + 2);
        int top = random.nextInt(4) == 0 ? 1000 : 1 + random.nextInt(4);
        StringBuilder b = new StringBuilder("states " + states + ";");
        if (random.nextInt(3) == 0) {
            b.append("start ").append(random.nextInt(top)).append(';');
        }
        int finals = random.nextInt(8) == 0 ? 0 : 1 + random.nextInt(3);
        for (int i = 0; i < finals; i++) {
            b.append("final ").append(random.nextInt(states)).append(' ').append(random.nextInt(top)).append(';');
        }
        for (int i = 0; i < arcs; i++) {
            char x = sign(kind >= 2, letters);
            char y = kind >= 3 ? sign(true, letters) : x;
            // The first arcs make a tree, so that most states can be come to.
            int to = i + 1 < states ? i + 1 : random.nextInt(states);
            int from = i + 1 < states ? random.nextInt(i + 1) : random.nextInt(states);
            b.append("arc").append(from).append(' ').append(to).append(x).append(' ').append(y)
                    .append(random.nextInt(top)).append(';');
        }
        return b.length() <= 400 ? b.toString() : b.substring(0, b.lastIndexOf(";", 399) + 1);
    }

    private char sign(boolean maySilent, int letters) {
        return maySilent && random.nextInt(4) == 0 ? '-' : (char) ('a' + random.nextInt(letters));
    }

    private String spoil(String text) {
        String signs = " ;-abcdefxstrn0123456789:A{\u0000\u00ff";
        StringBuilder b = new StringBuilder(text);
        int changes = 1 + random.nextInt(2);
        for (int i = 0; i < changes && b.length() > 0; i++) {
            int at = random.nextInt(b.length());
            char c = signs.charAt(random.nextInt(signs.length()));
            switch (random.nextInt(4)) {
                case 0: b.setCharAt(at, c); break;
                case 1: b.insert(at, c); break;
                case 2: b.deleteCharAt(at); break;
                default: b.setLength(at); break;
            }
        }
        return b.length() > 400 ? b.substring(0, 400) : b.toString();
    }

    private int slot() {
        return random.nextInt(40) == 0 ? random.nextInt(9) - 2 : random.nextInt(6);
    }

    private void callText() {
        clearTape();
        String text = machineText();
        String put = random.nextInt(6) == 0 ? spoil(text) : text;
        int fed = feedText(put);
        int s = slot();
        int n = random.nextInt(40) == 0 ? fed + random.nextInt(3) - 1 : put.length();
        same(3, "text(" + s + ", " + n + ")", () -> bench.text(s, n), () -> oracle.text(s, n));
        same(4, "fault()", () -> bench.fault(), () -> oracle.fault());
    }

    private String letters(int most) {
        StringBuilder b = new StringBuilder();
        int count = random.nextInt(most + 1);
        int kinds = 1 + random.nextInt(4);
        for (int i = 0; i < count; i++) {
            b.append((char) ('a' + random.nextInt(kinds)));
        }
        return b.toString();
    }

    private void callWord() {
        clearTape();
        String w = letters(random.nextInt(3) == 0 ? 22 : 5);
        String put = random.nextInt(12) == 0 ? spoil(w) : w;
        feedText(put);
        int s = slot();
        same(13, "word(" + s + ", " + put.length() + ")", () -> bench.word(s, put.length()),
                () -> oracle.word(s, put.length()));
        same(4, "fault()", () -> bench.fault(), () -> oracle.fault());
    }

    private void callCouple() {
        clearTape();
        int most = random.nextInt(5) == 0 ? 22 : 4;
        String w = letters(most) + ":" + letters(most);
        String put = random.nextInt(12) == 0 ? spoil(w) : w;
        feedText(put);
        int s = slot();
        same(14, "couple(" + s + ", " + put.length() + ")", () -> bench.couple(s, put.length()),
                () -> oracle.couple(s, put.length()));
        same(4, "fault()", () -> bench.fault(), () -> oracle.fault());
    }

    private void callMake() {
        int what = random.nextInt(50) == 0 ? random.nextInt(12) - 2 : random.nextInt(8);
        int s = slot();
        int t = slot();
        String got = same(5, "make(" + what + ", " + s + ", " + t + ")", () -> bench.make(what, s, t),
                () -> oracle.make(what, s, t));
        if (!got.endsWith("Exception")) {
            lookAll(t);
        }
    }

    private void callJoin() {
        int what = random.nextInt(50) == 0 ? random.nextInt(14) - 2 : 8 + random.nextInt(3);
        int s = slot();
        int t = slot();
        int u = slot();
        String got = same(6, "join(" + what + ", " + s + ", " + t + ", " + u + ")",
                () -> bench.join(what, s, t, u), () -> oracle.join(what, s, t, u));
        if (!got.endsWith("Exception")) {
            lookAll(u);
        }
    }

    /** Every number of a machine. */
    private void lookAll(int s) {
        for (int what = 0; what <= 8; what++) {
            int w = what;
            same(8, "told(" + s + ", " + w + ")", () -> bench.told(s, w), () -> oracle.told(s, w));
        }
        int arcs = oracle.told(s, 1);
        for (int a = 0; a < arcs; a++) {
            for (int what = 0; what <= 4; what++) {
                int x = a;
                int w = what;
                same(9, "arc(" + s + ", " + x + ", " + w + ")", () -> bench.arc(s, x, w), () -> oracle.arc(s, x, w));
            }
        }
        int states = oracle.told(s, 0);
        for (int q = 0; q < states; q++) {
            int x = q;
            same(10, "last(" + s + ", " + x + ")", () -> bench.last(s, x), () -> oracle.last(s, x));
        }
        same(25, "print()", () -> bench.print(), () -> oracle.print());
    }

    private void callAsk() {
        int s = slot();
        int k = random.nextInt(14) - 2;
        switch (random.nextInt(13)) {
            case 0:
                same(7, "undo()", () -> bench.undo(), () -> oracle.undo());
                same(8, "told(0, 9)", () -> bench.told(0, 9), () -> oracle.told(0, 9));
                same(8, "told(0, 10)", () -> bench.told(0, 10), () -> oracle.told(0, 10));
                break;
            case 1: same(8, "told(" + s + ", " + k + ")", () -> bench.told(s, k), () -> oracle.told(s, k)); break;
            case 2:
                same(11, "least(" + s + ")", () -> bench.least(s), () -> oracle.least(s));
                for (int i = -2; i < 6; i++) {
                    int j = i;
                    same(12, "path(" + s + ", " + j + ")", () -> bench.path(s, j), () -> oracle.path(s, j));
                }
                break;
            case 3: same(15, "words(" + s + ", " + k + ")", () -> bench.words(s, k), () -> oracle.words(s, k)); break;
            case 4: {
                int w = random.nextInt(20) == 0 ? 2 : random.nextInt(2);
                int n = random.nextInt(10) == 0 ? k : random.nextInt(7);
                same(16, "worst(" + s + ", " + n + ", " + w + ")", () -> bench.worst(s, n, w),
                        () -> oracle.worst(s, n, w));
                break;
            }
            case 5: {
                int n = random.nextInt(33) - 1;
                same(17, "paths(" + s + ", " + n + ")", () -> bench.paths(s, n), () -> oracle.paths(s, n));
                break;
            }
            case 6: callApart(s, slot()); break;
            case 7: callParting(s); break;
            case 8: {
                int q = random.nextInt(12) - 1;
                same(22, "ahead(" + s + ", " + q + ")", () -> bench.ahead(s, q), () -> oracle.ahead(s, q));
                break;
            }
            case 9: {
                int q = random.nextInt(12) - 1;
                same(23, "merged(" + s + ", " + q + ")", () -> bench.merged(s, q), () -> oracle.merged(s, q));
                break;
            }
            case 10: {
                int t = slot();
                same(24, "alike(" + s + ", " + t + ")", () -> bench.alike(s, t) ? 1 : 0,
                        () -> oracle.alike(s, t) ? 1 : 0);
                break;
            }
            case 11: same(26, "status(" + k + ")", () -> bench.status(k), () -> oracle.status(k)); break;
            default: {
                int a = random.nextInt(20) - 2;
                int w = random.nextInt(7) - 1;
                same(9, "arc(" + s + ", " + a + ", " + w + ")", () -> bench.arc(s, a, w), () -> oracle.arc(s, a, w));
                same(10, "last(" + s + ", " + a + ")", () -> bench.last(s, a), () -> oracle.last(s, a));
                break;
            }
        }
    }

    private void callApart(int s, int t) {
        String found = same(18, "apart(" + s + ", " + t + ", -1)", () -> bench.apart(s, t, -1),
                () -> oracle.apart(s, t, -1));
        if (found.equals("-1")) {
            return;
        }
        for (int i = -2; i < 4; i++) {
            int j = i;
            same(18, "apart(" + s + ", " + t + ", " + j + ")", () -> bench.apart(s, t, j),
                    () -> oracle.apart(s, t, j));
        }
    }

    private void callParting(int s) {
        String are = same(19, "twins(" + s + ")", () -> bench.twins(s), () -> oracle.twins(s));
        for (int what = -1; what <= 5; what++) {
            int w = what;
            same(20, "parting(" + s + ", " + w + ")", () -> bench.parting(s, w), () -> oracle.parting(s, w));
        }
        if (!are.equals("0")) {
            return;
        }
        for (int which = 0; which <= 2; which++) {
            for (int k = -1; k <= 12; k++) {
                int w = which;
                int j = k;
                same(21, "partingAt(" + s + ", " + w + ", " + j + ")", () -> bench.partingAt(s, w, j),
                        () -> oracle.partingAt(s, w, j));
            }
        }
    }

    /** A text with as many arcs as fit, few of them silent: its words come to more rows than are kept at once. */
    private String wideText() {
        int states = 6 + random.nextInt(7);
        StringBuilder b = new StringBuilder("states " + states + ";");
        for (int i = 0; i < 3; i++) {
            b.append("final").append(random.nextInt(states)).append(' ').append(random.nextInt(9)).append(';');
        }
        for (int i = 0; i < 28; i++) {
            char x = random.nextInt(12) == 0 ? '-' : (char) ('a' + random.nextInt(4));
            b.append("arc").append(i < states ? i : random.nextInt(states)).append(' ').append(random.nextInt(states))
                    .append(x).append(' ').append(x).append(random.nextInt(9)).append(';');
        }
        return b.substring(0, b.lastIndexOf(";", 399) + 1);
    }

    private void runWide() {
        for (int s = 0; s < 2; s++) {
            String text = wideText();
            int slot = s;
            feedText(text);
            same(3, "text(" + slot + ")", () -> bench.text(slot, text.length()),
                    () -> oracle.text(slot, text.length()));
            same(15, "words(" + slot + ", 8)", () -> bench.words(slot, 8), () -> oracle.words(slot, 8));
            same(16, "worst(" + slot + ", 8, 1)", () -> bench.worst(slot, 8, 1), () -> oracle.worst(slot, 8, 1));
            same(16, "worst(" + slot + ", 8, 0)", () -> bench.worst(slot, 8, 0), () -> oracle.worst(slot, 8, 0));
        }
        callApart(0, 1);
        same(5, "make(3, 0, 1)", () -> bench.make(3, 0, 1), () -> oracle.make(3, 0, 1));
        same(5, "make(3, 1, 1)", () -> bench.make(3, 1, 1), () -> oracle.make(3, 1, 1));
        callApart(0, 1);
    }

    private void run(int acts) {
        for (int i = 0; i < 6; i++) {
            callText();
        }
        for (int i = 0; i < acts && !broken; i++) {
            switch (random.nextInt(10)) {
                case 0: case 9: callText(); break;
                case 1: callWord(); break;
                case 2: callCouple(); break;
                case 3: case 4: callMake(); break;
                case 5: callJoin(); break;
                default: callAsk(); break;
            }
        }
        for (int w = -1; w <= 3; w++) {
            int what = w;
            same(26, "status(" + what + ")", () -> bench.status(what), () -> oracle.status(what));
        }
    }

    public static void main(String[] args) {
        int runs = args.length > 0 ? Integer.parseInt(args[0]) : 400;
        int first = args.length > 1 ? Integer.parseInt(args[1]) : 1;
        for (int seed = first; seed < first + runs; seed++) {
            new RandomRunsTest(seed).run(60);
            if (seed % 8 == 0) {
                new RandomRunsTest(seed).runWide();
            }
        }
        System.out.println(runs + " runs, " + calls + " calls, " + wrong + " runs differ");
        StringBuilder b = new StringBuilder("answers neither -1 nor refused, by promise:");
        for (int i = 1; i < 26; i++) {
            b.append(' ').append(i + 1).append(':').append(answered[i]);
        }
        System.out.println(b);
        if (wrong != 0) {
            System.exit(1);
        }
    }
}
