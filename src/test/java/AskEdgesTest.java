import java.math.BigInteger;

/** The edges of what is asked, refused and taken back: each method stands for a sentence of the document. */
public final class AskEdgesTest {
    private static final int MILLION = 1000000;
    private static final int[] FAR = {Integer.MIN_VALUE, Integer.MIN_VALUE + 1, Integer.MAX_VALUE - 1,
        Integer.MAX_VALUE};
    private static final String PARTED = "states 3;arc 0 1 a a 0;arc 0 2 a a 0;arc 1 1 b b 1;arc 2 2 b b 2;";

    private AskEdgesTest() {
    }

    public static void main(String[] args) {
        newOne();
        slotsOfAsks();
        statesOfAsks();
        arcsOfAsks();
        whatOfAsks();
        refusedCounted();
        othersOfStatus();
        askedNothingChanges();
        undoTen();
        undoRound();
        undoOfEach();
        undoLeavesNoAnswer();
        undoTape();
        noActs();
        toldOfNone();
        toldOneWay();
        pathWithoutArcs();
        pathPlaces();
        pathTies();
        wordsCounted();
        worstOfNone();
        worstOfEight();
        worstOfManyRows();
        worstOfRowsAgain();
        silentFromTheEnd();
        manySteps();
        apartForty();
        pathsCapped();
        pathsOfFew();
        apartEmptyWord();
        apartEightLetters();
        apartNone();
        apartPlaces();
        twinsOfNone();
        partingPlaces();
        partingAtStart();
        partingBothWays();
        partingLeast();
        partingPaysFromThere();
        partingBackLetters();
        partingLong();
        partingForty();
        notPlain();
        aheadNone();
        mergedStates();
        alikeOrNot();
        printWraps();
        fullest();
        dearest();
        Check.end();
    }

    // ---- what the methods below build with

    private static void costly(CostBench b, int slot, int help, String shape, int cost) {
        Check.load(b, slot, shape.replace("%", String.valueOf(cost >> 11)));
        for (int bit = 10; bit >= 0; bit--) {
            b.join(8, slot, slot, slot);
            if ((cost >> bit & 1) == 1) {
                Check.load(b, help, shape.replace("%", "1"));
                b.join(8, slot, help, slot);
            }
        }
    }

    private static String chain(int letters) {
        StringBuilder t = new StringBuilder("states " + (letters + 1) + ";final " + letters + " 0;");
        for (int i = 0; i < letters; i++) {
            t.append("arc").append(i).append(' ').append(i + 1).append("a a1;");
        }
        return t.toString();
    }

    private static int letter(char sign) {
        return sign - 'a' + 1;
    }

    // ---- promise 1, and what is refused

    /** "All SLOTS as at first": "one STATE, nothing else" */
    private static void newOne() {
        CostBench b = new CostBench();
        int[] told = {1, 0, 0, 1, 1, 1, 0, 0, 0, 0, 0};
        for (int s = 0; s <= 5; s++) {
            for (int what = 0; what <= 10; what++) {
                Check.due("1 told " + what + " of " + s, b.told(s, what), told[what]);
            }
            Check.due("1 last", b.last(s, 0), -1);
            Check.due("1 least", b.least(s), -1);
            Check.due("1 path", b.path(s, -1), -1);
            Check.due("1 ahead", b.ahead(s, 0), -1);
            Check.due("1 merged", b.merged(s, 0), 0);
            Check.due("1 twins", b.twins(s), 1);
        }
        Check.due("1 fault", b.fault(), -1);
        Check.due("1 undo", b.undo(), -1);
        for (int what = 0; what <= 2; what++) {
            Check.due("1 status", b.status(what), 0);
        }
        CostBench other = new CostBench();
        Check.load(other, 0, "states 2;");
        Check.due("1 each object has its own", b.told(0, 0), 1);
    }

    private static void noSuchSlot(CostBench b, int s) {
        Check.noSuch("8 told " + s, () -> b.told(s, 0));
        Check.noSuch("8 told, what wrong too " + s, () -> b.told(s, 11));
        Check.noSuch("9 arc " + s, () -> b.arc(s, 0, 0));
        Check.noSuch("9 arc, what wrong too " + s, () -> b.arc(s, 0, 5));
        Check.noSuch("10 last " + s, () -> b.last(s, 0));
        Check.noSuch("11 least " + s, () -> b.least(s));
        Check.noSuch("12 path " + s, () -> b.path(s, -1));
        Check.noSuch("13 word " + s, () -> b.word(s, 0));
        Check.noSuch("13 word, n wrong too " + s, () -> b.word(s, 401));
        Check.noSuch("14 couple " + s, () -> b.couple(s, 0));
        Check.noSuch("14 couple, n wrong too " + s, () -> b.couple(s, -1));
        Check.noSuch("15 words " + s, () -> b.words(s, 0));
        Check.noSuch("15 words, letters wrong too " + s, () -> b.words(s, 9));
        Check.noSuch("16 worst " + s, () -> b.worst(s, 0, 0));
        Check.noSuch("16 worst, both wrong too " + s, () -> b.worst(s, 9, 2));
        Check.noSuch("17 paths " + s, () -> b.paths(s, 0));
        Check.noSuch("17 paths, arcs wrong too " + s, () -> b.paths(s, 31));
        Check.noSuch("18 apart " + s, () -> b.apart(s, 0, -1));
        Check.noSuch("18 apart " + s, () -> b.apart(0, s, -1));
        Check.noSuch("19 twins " + s, () -> b.twins(s));
        Check.noSuch("20 parting " + s, () -> b.parting(s, 0));
        Check.noSuch("20 parting, what wrong too " + s, () -> b.parting(s, 5));
        Check.noSuch("21 partingAt " + s, () -> b.partingAt(s, 0, 0));
        Check.noSuch("21 partingAt, which wrong too " + s, () -> b.partingAt(s, 2, 0));
        Check.noSuch("22 ahead " + s, () -> b.ahead(s, 0));
        Check.noSuch("23 merged " + s, () -> b.merged(s, 0));
        Check.noSuch("24 alike " + s, () -> b.alike(s, 0) ? 1 : 0);
        Check.noSuch("24 alike " + s, () -> b.alike(0, s) ? 1 : 0);
    }

    /** "NoSuchElementException: no such SLOT ... (so below, ahead of others)" */
    private static void slotsOfAsks() {
        CostBench b = new CostBench();
        b.feed(0, 0, 0, 0, 0);
        String before = Check.all(b);
        int refused = 0;
        for (int s : new int[] {-1, 6, Integer.MIN_VALUE, Integer.MAX_VALUE}) {
            noSuchSlot(b, s);
            refused += 28;
            Check.due("26 counted", b.status(0), refused);
        }
        Check.due("26 none of another reason", b.status(1) + b.status(2), 0);
        Check.same("3 refused", Check.all(b), before);
    }

    /** "NoSuchElementException: no such ... STATE" */
    private static void statesOfAsks() {
        CostBench b = new CostBench();
        for (int states : new int[] {1, 2, 12}) {
            Check.load(b, 3, "states " + states + ";");
            for (int q : new int[] {-1, states, 40, FAR[0], FAR[3]}) {
                Check.noSuch("10 last " + q, () -> b.last(3, q));
                Check.noSuch("22 ahead " + q, () -> b.ahead(3, q));
                Check.noSuch("23 merged " + q, () -> b.merged(3, q));
            }
            Check.due("10 the last there is", b.last(3, states - 1), -1);
            Check.due("22 the last there is", b.ahead(3, states - 1), -1);
            Check.due("23 the last there is", b.merged(3, states - 1), 0);
        }
        Check.due("26 counted", b.status(0), 45);
    }

    /** "NoSuchElementException: no such ... ARC", ahead of what is asked of it */
    private static void arcsOfAsks() {
        CostBench b = new CostBench();
        for (int arcs = 0; arcs <= 30; arcs += 15) {
            Check.load(b, 3, "states 1;" + "arc0 0a b7;".repeat(arcs));
            for (int a : new int[] {-1, arcs, 120, FAR[0], FAR[3]}) {
                Check.noSuch("9 arc " + a, () -> b.arc(3, a, 0));
                Check.noSuch("9 arc, what wrong too " + a, () -> b.arc(3, a, 5));
            }
        }
        Check.due("9 the last there is", b.arc(3, 29, 4), 7);
        Check.due("26 counted", b.status(0), 30);
        Check.due("26 none of another reason", b.status(1), 0);
    }

    private static void badWhat(CostBench b, int below, int n) {
        Check.badArgument("8 what " + n, () -> b.told(0, below < 0 ? n : 11));
        Check.badArgument("9 what " + n, () -> b.arc(0, 0, below < 0 ? n : 5));
        Check.badArgument("15 letters " + n, () -> b.words(0, below < 0 ? n : 9));
        Check.badArgument("16 letters " + n, () -> b.worst(0, below < 0 ? n : 9, 0));
        Check.badArgument("16 what " + n, () -> b.worst(0, 0, below < 0 ? n : 2));
        Check.badArgument("17 arcs " + n, () -> b.paths(0, below < 0 ? n : 31));
        Check.badArgument("20 what " + n, () -> b.parting(0, below < 0 ? n : 5));
        Check.badArgument("21 which " + n, () -> b.partingAt(0, below < 0 ? n : 2, 0));
    }

    /** "what", "letters (0 to 8)", "arcs (0 to 30)", "which": one below and one above what is named */
    private static void whatOfAsks() {
        CostBench b = new CostBench();
        Check.load(b, 0, PARTED);
        String before = Check.all(b);
        badWhat(b, -1, -1);
        badWhat(b, 0, 0);
        for (int n : FAR) {
            badWhat(b, -1, n);
        }
        Check.due("26 counted", b.status(1), 48);
        Check.due("26 none of another reason", b.status(0) + b.status(2), 0);
        Check.same("3 refused", Check.all(b), before);
        Check.due("8 what 10", b.told(0, 10), 1);
        Check.due("9 what 4", b.arc(0, 3, 4), 2);
        Check.due("15 letters 8", b.words(0, 8), 0);
        Check.due("16 letters 8, what 1", b.worst(0, 8, 1), -1);
        Check.due("17 arcs 30", b.paths(0, 30), 0);
        Check.due("20 what 4", b.parting(0, 4), -1);
        Check.due("21 which 1", b.partingAt(0, 1, 0), 2);
    }

    /** "How many calls were refused: 0 ..., 1 ..., 2 ..." */
    private static void refusedCounted() {
        CostBench b = new CostBench();
        Check.load(b, 0, "states 1;arc 0 0 a b 0;");
        for (int i = 1; i <= 5; i++) {
            Check.noSuch("26", () -> b.make(99, 6, 6));
            Check.due("26 once for two wrong slots", b.status(0), i);
            Check.badArgument("26", () -> b.worst(0, 9, 9));
            Check.due("26 once for two wrong numbers", b.status(1), i);
            Check.badState("26", () -> b.make(4, 0, 0));
            Check.due("26 no acceptor", b.status(2), i);
        }
        Check.load(b, 0, "states 0;");
        Check.word(b, 0, "x");
        Check.couple(b, 0, "x");
        b.undo();
        b.undo();
        b.undo();
        b.path(0, -5);
        b.status(7);
        Check.due("26 faults and NONE are no refusals", b.status(0) * 100 + b.status(1) * 10 + b.status(2), 555);
    }

    /** "NONE for others" */
    private static void othersOfStatus() {
        CostBench b = new CostBench();
        for (int what : new int[] {-1, 3, -2, 4, FAR[0], FAR[3]}) {
            Check.due("26 status " + what, b.status(what), -1);
        }
        Check.due("26 asked, not refused", b.status(0) + b.status(1) + b.status(2), 0);
    }

    /** "Asked, nothing stays changed." */
    private static void askedNothingChanges() {
        CostBench b = new CostBench();
        Check.load(b, 0, PARTED);
        Check.load(b, 1, "states 3;start 3;final 2 1;arc 0 1 - a 1;arc 1 2 b - 2;arc 2 0 c c 0;");
        Check.load(b, 2, "states 0;");
        b.feed(0x61626364, 0, 0, 0, 0);
        String before = Check.all(b);
        for (int s = 0; s <= 2; s++) {
            for (int k = -1; k <= 8; k++) {
                b.path(s, k);
                b.apart(s, 1, k);
                b.words(s, Math.max(k, 0));
                b.worst(s, Math.max(k, 0), k & 1);
                b.paths(s, Math.max(k, 0) * 3);
            }
            b.least(s);
            b.merged(s, 0);
            b.ahead(s, 0);
            b.alike(s, 1);
        }
        b.twins(0);
        b.parting(0, 3);
        b.partingAt(0, 1, 0);
        b.status(0);
        Check.same("4 asked", Check.all(b), before);
        Check.due("4 the tape's bytes too", b.word(0, 5), -9);
        Check.due("4 the tape's bytes too", b.fault(), 4);
    }

    // ---- promise 7

    /** "(the latest 10 can be taken back): how many still can; NONE: none could" */
    private static void undoTen() {
        for (int acts = 0; acts <= 12; acts++) {
            CostBench b = new CostBench();
            for (int i = 1; i <= acts; i++) {
                b.make(3, 0, 0);
                Check.due("8 acts", b.told(0, 10), Math.min(i, 10));
            }
            int can = Math.min(acts, 10);
            for (int left = can - 1; left >= 0; left--) {
                Check.due("7 of " + acts, b.undo(), left);
                Check.due("8 of " + acts, b.told(0, 10), left);
                Check.due("7 as ahead", b.told(0, 0), 1 + acts - can + left);
            }
            String before = Check.all(b);
            Check.due("7 none of " + acts, b.undo(), -1);
            Check.due("7 none of " + acts, b.undo(), -1);
            Check.same("7 none could", Check.all(b), before);
            Check.due("7 the lost ones stay", b.told(0, 0), 1 + acts - can);
        }
    }

    /** The same with acts behind what was taken back, round and round: some 70 acts, never more than 10 kept. */
    private static void undoRound() {
        CostBench b = new CostBench();
        int[] past = new int[200];
        int count = 0;
        int kept = 0;
        for (int round = 0; round < 20; round++) {
            for (int i = 0; i < 1 + round % 7; i++) {
                past[count] = b.told(0, 0);
                count++;
                kept = Math.min(kept + 1, 10);
                Check.load(b, 0, "states " + (1 + (round * 5 + i * 3) % 12) + ";");
            }
            for (int i = 0; i < round % 5 && kept > 0; i++) {
                count--;
                kept--;
                Check.due("7 round " + round, b.undo(), kept);
                Check.due("7 as ahead, round " + round, b.told(0, 0), past[count]);
                b.word(0, 0);
            }
        }
    }

    /** "All is as ahead of the latest text() without a FAULT, make(), join()": each of them, onto each SLOT */
    private static void undoOfEach() {
        for (int what = -1; what <= 10; what++) {
            for (int to = 0; to <= 5; to++) {
                CostBench b = new CostBench();
                for (int s = 0; s <= 5; s++) {
                    Check.load(b, s, "states " + (s + 2) + ";start " + s + ";final 1 " + s + ";arc 0 1 a a " + s + ";");
                }
                String machines = Check.machines(b);
                if (what == -1) {
                    Check.load(b, to, "states 1;");
                } else if (what < 8) {
                    b.make(what, 1, to);
                } else {
                    b.join(what, 1, 2, to);
                }
                Check.due("7 undo " + what, b.undo(), 6);
                Check.same("7 as ahead of " + what + " onto " + to, Check.machines(b), machines);
            }
        }
    }

    /** The same: what was asked ahead of it is asked anew. */
    private static void undoLeavesNoAnswer() {
        CostBench b = new CostBench();
        Check.load(b, 0, PARTED);
        Check.load(b, 1, chain(3));
        Check.due("19", b.twins(0), 0);
        Check.due("18", b.apart(0, 1, -1), 3);
        b.make(1, 2, 0);
        Check.due("19 made", b.twins(0), 1);
        Check.due("20 made", b.parting(0, 0), -1);
        Check.due("18 made", b.apart(0, 2, -1), -1);
        b.make(1, 1, 0);
        Check.due("18 made", b.apart(0, 1, -1), -1);
        b.undo();
        Check.due("18 taken back", b.apart(0, 1, -1), 3);
        b.undo();
        Check.due("19 taken back", b.twins(0), 0);
        Check.due("20 taken back", b.parting(0, 1), 2);
        Check.load(b, 0, "states 1;");
        Check.due("19 told anew", b.twins(0), 1);
        Check.due("18 told anew", b.apart(0, 5, -1), -1);
    }

    /** The same: "All", so the TAPE too (promise 3: "all but the TAPE stays"). */
    private static void undoTape() {
        CostBench b = new CostBench();
        Check.put(b, "states 4;start 3;xyz");
        b.text(0, 17);
        Check.due("9 empty behind it", b.told(0, 9), 0);
        b.undo();
        Check.due("7 the tape as ahead of text()", b.told(0, 9), 20);
        Check.due("7 its bytes", b.text(0, 20), -9);
        Check.due("7 its bytes", b.fault(), 17);
        Check.put(b, "abcd".repeat(100));
        b.make(0, 0, 0);
        b.word(0, 0);
        Check.due("7 a full one", b.undo(), 0);
        Check.due("7 a full one", b.told(0, 9), 400);
        Check.due("7 and full it is", b.feed(0, 0, 0, 0, 0), -1);
        Check.due("7 its bytes", b.word(0, 20), -1);
        Check.due("7 none could", b.undo(), -1);
        Check.due("7 the tape stays then", b.told(0, 9), 0);
    }

    /** What is no act: faults, refused calls, asking, feeding */
    private static void noActs() {
        CostBench b = new CostBench();
        Check.load(b, 0, "states 2;arc 0 1 a b 1;");
        Check.load(b, 0, "states 0;");
        Check.badState("7", () -> b.make(4, 0, 1));
        Check.badArgument("7", () -> b.make(8, 0, 1));
        Check.noSuch("7", () -> b.join(8, 0, 1, 6));
        Check.word(b, 0, "a");
        Check.couple(b, 0, "a:b");
        b.feed(0, 0, 0, 0, 0);
        Check.due("8 one act", b.told(0, 10), 1);
        Check.due("7 taken back", b.undo(), 0);
        Check.machine("7 taken back", b, 0, "1 start 0 final");
        Check.due("7 itself no act", b.undo(), -1);
    }

    // ---- promises 8 to 12

    /** "3 1 it is an ACCEPTOR, 4 1 PLAIN, ...": without ARCS it is all of these */
    private static void toldOfNone() {
        CostBench b = new CostBench();
        Check.load(b, 0, "states 12;start 999;final 11 0;final 0 0;");
        int[] want = {12, 0, 999, 1, 1, 1, 2, 0, 1, 0, 1};
        for (int what = 0; what <= 10; what++) {
            Check.due("8 told " + what, b.told(0, what), want[what]);
        }
        Check.load(b, 0, "states 2;arc 0 1 - - 0;arc 1 1 a a 0;arc 0 1 - b 0;arc 0 1 b - 0;arc 0 0 - - 5;"
                + "arc 0 1 - - 0;");
        Check.due("8 silent ones, in and out", b.told(0, 7), 3);
        Check.due("8 no path", b.told(0, 8), 0);
    }

    /** "5 1 from no STATE two ARCS have the same in, none is SILENT there" */
    private static void toldOneWay() {
        String[] texts = {"arc 0 1 a a 0;arc 0 1 b a 0;arc 1 1 a a 0;", "arc 0 1 a a 0;arc 0 0 a a 0;",
            "arc 1 0 d a 0;arc 0 1 b a 0;arc 1 1 d b 1;", "arc 0 1 - a 0;", "arc 0 1 a - 0;", "arc 0 1 - - 0;"};
        int[] want = {1, 0, 0, 0, 1, 0};
        for (int i = 0; i < texts.length; i++) {
            CostBench b = new CostBench();
            Check.load(b, 0, "states 2;" + texts[i]);
            Check.due("8 " + texts[i], b.told(0, 5), want[i]);
        }
    }

    /** "(none at all, if START has one)" */
    private static void pathWithoutArcs() {
        CostBench b = new CostBench();
        Check.load(b, 0, "states 2;start 5;final 0 6;final 1 0;arc 0 1 a a 6;arc 0 0 - - 0;");
        Check.due("11 least", b.least(0), 11);
        Check.due("12 no arcs, fewest", b.path(0, -1), 0);
        Check.due("12 no first", b.path(0, 0), -1);
        Check.due("17 no arcs", b.paths(0, 0), 1);
        Check.due("15 no letters", b.words(0, 0), 1);
        Check.due("16 no letters", b.worst(0, 0, 0), 11);
        Check.due("8 some path", b.told(0, 8), 2);
        Check.load(b, 0, "states 1;final 0 0;");
        Check.due("11 nothing to pay", b.least(0), 0);
        Check.due("12 nothing to pay", b.path(0, -1), 0);
        Check.due("22 nothing to pay", b.ahead(0, 0), 0);
        Check.load(b, 0, "states 2;start 5;final 0 6;final 1 0;arc 0 1 a a 5;");
        Check.due("11 an arc is less", b.least(0), 10);
        Check.due("12 an arc is less", b.path(0, -1), 1);
    }

    /** "NONE: there are not so many, no PATH, k below NONE" */
    private static void pathPlaces() {
        CostBench b = new CostBench();
        Check.load(b, 0, chain(4));
        Check.due("12 how many", b.path(0, -1), 4);
        for (int k = 0; k < 4; k++) {
            Check.due("12 the " + k + "-th", b.path(0, k), k);
        }
        Check.due("12 not so many", b.path(0, 4), -1);
        Check.due("12 below NONE", b.path(0, -2), -1);
        for (int k : FAR) {
            Check.due("12 far " + k, b.path(0, k), -1);
        }
        Check.load(b, 0, "states 2;final 1 0;arc 1 1 a a 0;");
        for (int k = -2; k <= 1; k++) {
            Check.due("12 no path " + k, b.path(0, k), -1);
        }
        Check.due("11 no path", b.least(0), -1);
        Check.due("26 none of these is refused", b.status(0) + b.status(1) + b.status(2), 0);
    }

    /** "(of several the one with fewest ARCS, of these the first by the numbers of its ARCS, one by one)" */
    private static void pathTies() {
        CostBench b = new CostBench();
        // Cost 3: arcs 0 1 2, arcs 5 6, arcs 4 6, arcs 4 3.
        Check.load(b, 0, "states 5;final 3 1;arc 0 1 a a 0;arc 1 2 a a 1;arc 2 3 a a 1;arc 4 3 b b 1;arc 0 4 a a 1;"
                + "arc 0 4 c c 1;arc 4 3 a a 1;");
        Check.due("11 least", b.least(0), 3);
        Check.due("12 fewest", b.path(0, -1), 2);
        Check.due("12 first", b.path(0, 0), 4);
        Check.due("12 second", b.path(0, 1), 3);
        // The first number decides, though the other path has the least second one.
        Check.load(b, 0, "states 4;final 3 0;arc 2 3 a a 0;arc 0 1 a a 0;arc 0 2 a a 0;arc 1 3 a a 0;");
        Check.due("12 by the first", b.path(0, 0), 1);
        Check.due("12 then the second", b.path(0, 1), 3);
        // A final cost counts as well as an arc's does, and is no arc.
        Check.load(b, 0, "states 3;final 1 5;final 2 0;arc 0 1 a a 0;arc 1 2 a a 5;");
        Check.due("12 a final cost is no arc", b.path(0, -1), 1);
    }

    // ---- promises 15 to 18

    /** "How many unlike WORDS of so many LETTERS (0 to 8) have a COST." */
    private static void wordsCounted() {
        CostBench b = new CostBench();
        Check.load(b, 0, "states 2;final 1 0;arc 0 1 - - 0;arc 0 0 a - 1;arc 0 0 b - 2;arc 1 1 c a 3;arc 1 1 d a 4;"
                + "arc 1 1 a - 0;arc 1 1 b - 0;arc 0 0 c c 9;arc 0 0 d d 9;");
        int all = 1;
        for (int letters = 0; letters <= 8; letters++) {
            Check.due("15 all of " + letters, b.words(0, letters), all);
            all *= 4;
        }
        Check.load(b, 0, "states 3;final 1 0;final 2 0;arc 0 1 a a 1;arc 0 2 a a 1;arc 0 1 a b 1;arc 0 2 a - 2;");
        Check.due("15 unlike ones: by IN alone", b.words(0, 1), 1);
        Check.due("15 none", b.words(0, 0), 0);
        Check.due("15 none", b.words(0, 2), 0);
        Check.load(b, 0, chain(8));
        Check.due("15 eight", b.words(0, 8), 1);
        Check.due("15 seven", b.words(0, 7), 0);
    }

    /** "NONE: none has one" */
    private static void worstOfNone() {
        CostBench b = new CostBench();
        Check.load(b, 0, chain(4));
        for (int letters = 0; letters <= 8; letters++) {
            Check.due("16 least of " + letters, b.worst(0, letters, 0), letters == 4 ? 4 : -1);
            Check.due("16 greatest of " + letters, b.worst(0, letters, 1), letters == 4 ? 4 : -1);
        }
        Check.load(b, 0, "states 1;final 0 0;");
        Check.due("16 nothing paid is not NONE", b.worst(0, 0, 0), 0);
        Check.due("16 nothing paid is not NONE", b.worst(0, 0, 1), 0);
    }

    /** "The least COST of WORDS of so many LETTERS (0 to 8), what 0; the greatest, what 1" */
    private static void worstOfEight() {
        CostBench b = new CostBench();
        Check.load(b, 0, "states 1;start 7;final 0 2;arc 0 0 a a 1;arc 0 0 b b 10;arc 0 0 b b 30;arc 0 0 c c 4;");
        for (int letters = 0; letters <= 8; letters++) {
            Check.due("16 least of " + letters, b.worst(0, letters, 0), 9 + letters);
            // Of two ways to read b the lesser one is its cost.
            Check.due("16 greatest of " + letters, b.worst(0, letters, 1), 9 + 10 * letters);
        }
        // Each letter may be the least and the greatest, whatever was asked of another slot just ahead.
        for (char x = 'a'; x <= 'd'; x++) {
            Check.load(b, 1, "states 1;final 0 0;arc 0 0 a a 5;arc 0 0 b b 5;arc 0 0 c c 5;arc 0 0 d d 5;");
            Check.load(b, 2, "states 1;final 0 0;arc 0 0 a a 5;arc 0 0 b b 5;arc 0 0 c c 5;arc 0 0 d d 5;"
                    .replace(x + " 5", x + " 2"));
            Check.load(b, 3, "states 1;final 0 0;arc 0 0 a a 5;arc 0 0 b b 5;arc 0 0 c c 5;arc 0 0 d d 5;"
                    .replace(x + " 5", x + " 7"));
            Check.due("16 all alike", b.worst(1, 8, 0), 40);
            Check.due("16 greatest, " + x, b.worst(3, 8, 1), 56);
            Check.due("16 all alike", b.worst(1, 8, 1), 40);
            Check.due("16 least, " + x, b.worst(2, 8, 0), 16);
            Check.due("16 least, " + x, b.worst(3, 8, 0), 40);
        }
    }

    /** The same with as many unlike rows of costs as there are: a word pays the lesser of two sums of its letters. */
    private static void worstOfManyRows() {
        int[] one = {0, 7, 50, 300};
        int[] other = {290, 60, 9, 1};
        StringBuilder t = new StringBuilder("states 3;final 1 0;final 2 0;arc 0 1 - - 0;arc 0 2 - - 0;");
        for (int i = 0; i < 4; i++) {
            char x = (char) ('a' + i);
            t.append("arc1 1").append(x).append(' ').append(x).append(one[i]).append(';');
            t.append("arc2 2").append(x).append(' ').append(x).append(other[i]).append(';');
        }
        CostBench b = new CostBench();
        Check.load(b, 0, t.toString());
        for (int letters = 0; letters <= 8; letters++) {
            int least = Integer.MAX_VALUE;
            int greatest = 0;
            for (int word = 0; word < 1 << 2 * letters; word++) {
                int[] sum = new int[2];
                for (int k = 0; k < letters; k++) {
                    sum[0] += one[word >> 2 * k & 3];
                    sum[1] += other[word >> 2 * k & 3];
                }
                least = Math.min(least, Math.min(sum[0], sum[1]));
                greatest = Math.max(greatest, Math.min(sum[0], sum[1]));
            }
            Check.due("16 least of " + letters, b.worst(0, letters, 0), least);
            Check.due("16 greatest of " + letters, b.worst(0, letters, 1), greatest);
            Check.due("15 all of " + letters, b.words(0, letters), 1 << 2 * letters);
        }
        // The same words cost the same in the other order of states; with one cost more, d first parts them.
        String turned = t.toString().replace("1 1", "x x").replace("2 2", "1 1").replace("x x", "2 2");
        Check.load(b, 1, turned);
        Check.due("18 the same", b.apart(0, 1, -1), -1);
        Check.load(b, 1, turned.replace("arc1 1d d1;", "arc1 1d d2;"));
        Check.due("18 one letter", b.apart(0, 1, -1), 1);
        Check.due("18 one letter", b.apart(0, 1, 0), 4);
    }

    /**
     * The same with rows that come again among many others: a, b, c add to two sums, d levels them to the lesser; the
     * second is there from the first d on.
     */
    private static void worstOfRowsAgain() {
        for (int i = 1; i <= 12; i++) {
            worstOfRows(new int[] {0, 97 * i % 499, 311 * i % 499}, new int[] {53 * i % 499, 0, 170 * i % 499});
        }
    }

    private static void worstOfRows(int[] one, int[] other) {
        StringBuilder t = new StringBuilder("states 2;final 0 2;final 1 0;");
        t.append("arc0 0d d0;arc0 1d d0;arc1 0d d0;arc1 1d d0;");
        for (int i = 0; i < 3; i++) {
            char x = (char) ('a' + i);
            t.append("arc0 0").append(x).append(' ').append(x).append(one[i]).append(';');
            t.append("arc1 1").append(x).append(' ').append(x).append(other[i]).append(';');
        }
        CostBench b = new CostBench();
        Check.load(b, 0, t.toString());
        for (int letters = 0; letters <= 8; letters++) {
            int greatest = 0;
            for (int word = 0; word < 1 << 2 * letters; word++) {
                int first = 0;
                int second = MILLION;
                for (int k = 0; k < letters; k++) {
                    int x = word >> 2 * k & 3;
                    first = x < 3 ? first + one[x] : Math.min(first, second);
                    second = x < 3 ? second + other[x] : first;
                }
                greatest = Math.max(greatest, Math.min(first + 2, second));
            }
            Check.due("16 greatest of " + letters, b.worst(0, letters, 1), greatest);
            Check.due("15 all of " + letters, b.words(0, letters), 1 << 2 * letters);
        }
    }

    /** SILENT ARCS one behind the other, the last of them first by number */
    private static void silentFromTheEnd() {
        StringBuilder t = new StringBuilder("states 12;final 11 0;");
        for (int i = 10; i >= 0; i--) {
            t.append("arc").append(i).append(' ').append(i + 1).append("- -1;");
        }
        CostBench b = new CostBench();
        Check.load(b, 0, t + "arc11 0a b0;");
        Check.due("13 word", Check.word(b, 0, "aa"), 33);
        Check.due("14 couple", Check.couple(b, 0, "aa:bb"), 33);
        Check.due("11 least", b.least(0), 11);
        Check.due("22 ahead", b.ahead(0, 0), 11);
        Check.due("12 path", b.path(0, 0), 10);
        Check.due("15 words", b.words(0, 8), 1);
        Check.due("16 greatest", b.worst(0, 8, 1), 99);
        Check.due("8 some path", b.told(0, 8), 12);
    }

    /** From START by b to all states for what their numbers are, by c to all but the last, by d to that; back by a. */
    private static String star(int states) {
        StringBuilder t = new StringBuilder("states " + states + ";final " + (states - 1) + " 0;");
        for (int i = 0; i < states; i++) {
            t.append("arc").append(i).append(" 0a a0;");
            t.append("arc0 ").append(i).append("b b").append(i).append(';');
            if (i < states - 1) {
                t.append("arc0 ").append(i).append("c c0;");
            }
        }
        return t.append("arc0 ").append(states - 1).append("d d0;").toString();
    }

    /** From each of forty STATES, by SILENT ways, three LETTERS to nearly all of forty */
    private static void manySteps() {
        CostBench b = new CostBench();
        Check.load(b, 0, star(5));
        Check.load(b, 1, star(8));
        Check.due("6 forty states", b.join(8, 0, 1, 2), 40);
        Check.load(b, 0, "states 1;final 0 0;arc 0 0 a - 0;arc 0 0 b b 0;arc 0 0 c c 0;arc 0 0 d d 0;");
        b.join(8, 2, 0, 2);
        b.make(2, 2, 2);
        Check.due("8 arcs", b.told(2, 1), 40 + 40 + 28 + 1);
        Check.due("8 silent ones", b.told(2, 7), 40);
        // The last letter is b, for 4 and 7, or d; all others may be any of three, and cost nothing.
        int all = 2;
        for (int letters = 1; letters <= 8; letters++) {
            Check.due("15 words of " + letters, b.words(2, letters), all);
            Check.due("16 greatest of " + letters, b.worst(2, letters, 1), 11);
            Check.due("16 least of " + letters, b.worst(2, letters, 0), 0);
            all *= 3;
        }
        Check.due("13 by d alone", Check.word(b, 2, "d".repeat(20)), 0);
        Check.badState("5 free, 2760 arcs", () -> b.make(4, 2, 3));
    }

    /** Two MACHINES of forty STATES each, unlike in the last of eight LETTERS, and in none of eight */
    private static void apartForty() {
        CostBench b = new CostBench();
        Check.load(b, 0, ring(5));
        Check.load(b, 1, ring(8) + "final 0 0;");
        Check.load(b, 2, ring(5) + "final 3 0;");
        b.join(8, 2, 1, 3);
        Check.due("6 forty states", b.told(3, 0), 40);
        Check.load(b, 2, ring(5) + "final 3 1;");
        b.join(8, 2, 1, 4);
        Check.due("6 forty states", b.told(4, 0), 40);
        Check.due("18 eight letters", b.apart(3, 4, -1), 8);
        Check.due("18 the last", b.apart(3, 4, 7), 1);
        Check.due("18 the other way", b.apart(4, 3, -1), 8);
        Check.load(b, 2, ring(5) + "final 4 1;");
        b.join(8, 2, 1, 4);
        Check.load(b, 2, ring(5) + "final 4 2;");
        b.join(8, 2, 1, 3);
        Check.due("18 unlike behind 24 letters alone", b.apart(3, 4, -1), -1);
    }

    /** "at most 1,000,000,000,000 are told" */
    private static void pathsCapped() {
        CostBench b = new CostBench();
        Check.load(b, 0, "states 1;final 0 0;" + "arc0 0--0;".repeat(10));
        long all = 1;
        for (int arcs = 0; arcs <= 12; arcs++) {
            Check.due("17 ten to the " + arcs, b.paths(0, arcs), all);
            all *= 10;
        }
        Check.due("17 the next", b.paths(0, 13), 1000000000000L);
        Check.due("17 the last", b.paths(0, 30), 1000000000000L);
        Check.load(b, 0, "states 1;final 0 0;" + "arc0 0--0;".repeat(30));
        Check.due("17 below", b.paths(0, 8), 656100000000L);
        for (int arcs = 9; arcs <= 30; arcs++) {
            Check.due("17 at most, " + arcs, b.paths(0, arcs), 1000000000000L);
        }
        // To two states that end, together above what is told, each below.
        Check.load(b, 0, "states 3;final 1 0;final 2 0;" + "arc0 0--0;".repeat(10) + "arc0 1--0;".repeat(9)
                + "arc0 2--0;".repeat(2));
        Check.due("17 both together below", b.paths(0, 11), 110000000000L);
        Check.due("17 both together above", b.paths(0, 12), 1000000000000L);
        // So many come to a state from which but one way ends, or none.
        Check.load(b, 0, "states 3;final 1 0;" + "arc0 0--0;".repeat(28) + "arc0 1--0;");
        Check.due("17 one way out", b.paths(0, 30), 1000000000000L);
        Check.load(b, 0, "states 3;final 1 0;" + "arc0 0--0;".repeat(29));
        Check.due("17 no way out", b.paths(0, 30), 0);
    }

    /** "How many PATHS have so many ARCS (0 to 30)" */
    private static void pathsOfFew() {
        CostBench b = new CostBench();
        Check.load(b, 0, "states 2;final 1 0;arc 0 1 - - 0;arc 1 0 a a 0;");
        for (int arcs = 0; arcs <= 30; arcs++) {
            Check.due("17 " + arcs, b.paths(0, arcs), arcs % 2);
        }
        Check.load(b, 0, "states 2;final 0 0;final 1 0;arc 0 0 a a 0;arc 0 1 a a 0;arc 0 1 a a 0;");
        Check.due("17 none at all", b.paths(0, 0), 1);
        Check.due("17 those that look alike too", b.paths(0, 1), 3);
    }

    /** "k NONE: how many LETTERS": of the WORD without any, none */
    private static void apartEmptyWord() {
        CostBench b = new CostBench();
        Check.load(b, 0, "states 1;final 0 0;");
        Check.due("18 one has none", b.apart(0, 1, -1), 0);
        Check.due("18 the other has none", b.apart(1, 0, -1), 0);
        Check.due("18 no first letter", b.apart(0, 1, 0), -1);
        Check.load(b, 1, "states 1;start 1;final 0 0;");
        Check.due("18 unlike", b.apart(0, 1, -1), 0);
        Check.load(b, 0, "states 1;final 0 1;");
        Check.due("18 alike by other costs", b.apart(0, 1, -1), -1);
    }

    /** "Of all WORDS of at most 8 LETTERS" */
    private static void apartEightLetters() {
        CostBench b = new CostBench();
        for (int letters = 1; letters <= 10; letters++) {
            Check.load(b, 0, chain(letters));
            Check.due("18 " + letters, b.apart(0, 1, -1), letters <= 8 ? letters : -1);
            Check.due("18 " + letters + ", the other way", b.apart(1, 0, -1), letters <= 8 ? letters : -1);
            Check.due("18 " + letters + ", the last", b.apart(0, 1, letters - 1), letters <= 8 ? 1 : -1);
        }
        // Unlike first behind eight letters, by a cost alone.
        Check.load(b, 0, chain(8) + "arc8 8b b1;");
        Check.load(b, 1, chain(8) + "arc8 8b b1;start 1;start 0;final 8 1;");
        Check.due("18 eight", b.apart(0, 1, -1), 8);
        Check.load(b, 1, chain(8) + "arc8 8b b2;");
        Check.due("18 nine", b.apart(0, 1, -1), -1);
    }

    /** "NONE: there is none" */
    private static void apartNone() {
        CostBench b = new CostBench();
        Check.due("18 both new", b.apart(0, 1, -1), -1);
        Check.load(b, 0, PARTED + "final 1 1;final 2 1;");
        Check.due("18 with itself", b.apart(0, 0, -1), -1);
        b.make(3, 0, 1);
        b.make(3, 1, 1);
        Check.due("18 turned round twice", b.apart(0, 1, -1), -1);
        Check.due("18 none, first letter", b.apart(0, 1, 0), -1);
        Check.due("18 of another second one", b.apart(0, 2, -1), 1);
        Check.due("18 of another first one", b.apart(3, 2, -1), -1);
        Check.due("18 of the first one again", b.apart(0, 2, 0), 1);
        Check.load(b, 2, "states 2;arc 0 1 a a 1;");
        Check.load(b, 3, "states 2;final 1 1;arc 1 0 a a 1;");
        Check.due("18 neither has a path", b.apart(2, 3, -1), -1);
    }

    /** "the shorter ones first, then by LETTERS ... k: the k-th one. NONE: ... k is another one" */
    private static void apartPlaces() {
        CostBench b = new CostBench();
        Check.load(b, 0, "states 4;final 3 0;arc 0 1 b b 0;arc 1 2 d d 0;arc 2 3 a a 0;arc 0 1 c c 0;arc 2 3 c c 0;");
        String word = "bda";
        Check.due("18 letters", b.apart(0, 1, -1), 3);
        for (int k = 0; k < 3; k++) {
            Check.due("18 the " + k + "-th", b.apart(0, 1, k), letter(word.charAt(k)));
        }
        Check.due("18 another", b.apart(0, 1, 3), -1);
        Check.due("18 another", b.apart(0, 1, -2), -1);
        for (int k : FAR) {
            Check.due("18 far " + k, b.apart(0, 1, k), -1);
        }
        // d alone is shorter than aa.
        Check.load(b, 1, "states 3;final 1 0;final 2 0;arc 0 1 d d 0;arc 0 2 a a 0;arc 2 2 a a 1;");
        Check.load(b, 2, "states 3;final 1 1;final 2 0;arc 0 1 d d 0;arc 0 2 a a 0;arc 2 2 a a 2;");
        Check.due("18 the shorter", b.apart(1, 2, -1), 1);
        Check.due("18 the shorter", b.apart(1, 2, 0), 4);
        Check.due("26 none of these is refused", b.status(0) + b.status(1) + b.status(2), 0);
    }

    // ---- promises 19 to 21

    /** "TWINS: on each way round of each couple both pay alike": without any way round they are */
    private static void twinsOfNone() {
        CostBench b = new CostBench();
        String[] texts = {"states 1;", chain(9), "states 1;arc 0 0 a a 5;arc 0 0 b b 9;",
            "states 1;arc 0 0 a a 5;arc 0 0 a a 5;", "states 3;arc 1 1 a a 5;arc 1 1 a a 6;",
            "states 3;arc 0 1 a a 0;arc 0 2 b b 0;arc 1 1 a a 1;arc 2 2 a a 2;",
            "states 3;arc 0 1 a a 0;arc 0 2 a a 9;arc 1 1 a a 1;arc 2 2 b b 2;"};
        for (String text : texts) {
            Check.load(b, 0, text);
            Check.due("19 " + text, b.twins(0), 1);
            for (int what = 0; what <= 4; what++) {
                Check.due("20 NONE: they are TWINS, " + what, b.parting(0, what), -1);
            }
            Check.due("21 no U", b.partingAt(0, 0, 0), -1);
            Check.due("21 no V", b.partingAt(0, 1, 0), -1);
        }
        Check.load(b, 0, "states 1;arc 0 0 a a 5;arc 0 0 a a 6;");
        Check.due("19 two arcs round one state", b.twins(0), 0);
    }

    /** "The k-th LETTER of U (which 0), V (1); NONE: there is none." */
    private static void partingPlaces() {
        CostBench b = new CostBench();
        Check.load(b, 0, "states 5;arc 0 1 d d 0;arc 1 2 c c 0;arc 1 3 c c 0;arc 2 2 a a 1;arc 3 4 a a 2;"
                + "arc 4 3 a a 1;");
        int[] want = {2, 3, 2, 2, -1};
        for (int what = 0; what <= 4; what++) {
            Check.due("20 parting " + what, b.parting(0, what), want[what]);
        }
        int[][] words = {{4, 3}, {1, 1}};
        for (int which = 0; which <= 1; which++) {
            for (int k = -2; k <= 4; k++) {
                boolean there = k >= 0 && k < words[which].length;
                Check.due("21 " + which + ", " + k, b.partingAt(0, which, k), there ? words[which][k] : -1);
            }
            for (int k : FAR) {
                Check.due("21 far " + k, b.partingAt(0, which, k), -1);
            }
        }
        Check.due("26 none of these is refused", b.status(0) + b.status(1) + b.status(2), 0);
    }

    /** "U: the shortest WORD to (p, q)": of (0, 0) it has no LETTERS */
    private static void partingAtStart() {
        CostBench b = new CostBench();
        Check.load(b, 0, "states 1;arc 0 0 c c 9;arc 0 0 b b 1;arc 0 0 c c 4;");
        int[] want = {0, 0, 0, 1, 5};
        for (int what = 0; what <= 4; what++) {
            Check.due("20 parting " + what, b.parting(0, what), want[what]);
        }
        Check.due("21 no U", b.partingAt(0, 0, 0), -1);
        Check.due("21 V", b.partingAt(0, 1, 0), 3);
    }

    /** "V: WORD of x, that LETTER, and BACK of y, if they pay ... other than 0; else WORD of y and BACK of y." */
    private static void partingBothWays() {
        CostBench b = new CostBench();
        String couple = "states 4;arc 0 1 d d 0;arc 0 2 d d 0;arc 2 2 a a 0;arc 2 2 b b 0;arc 2 2 c c 0;";
        // By a to (3, 2) paying 1, by b paying 3, back by c paying -1: b shows it, and b, c pay 2.
        Check.load(b, 0, couple.replace("2 2 c c 0", "2 2 c c 1") + "arc 1 3 a a 1;arc 1 3 b b 3;arc 3 1 c c 0;");
        Check.due("20 b and c", b.parting(0, 4), 2);
        Check.due("21 b", b.partingAt(0, 1, 0), 2);
        Check.due("21 c", b.partingAt(0, 1, 1), 3);
        // Paying 1 by b and -1 by c they pay 0: then a and c, the way that was known, with 2.
        Check.load(b, 0, couple.replace("2 2 c c 0", "2 2 c c 1") + "arc 1 3 a a 3;arc 1 3 b b 1;arc 3 1 c c 0;");
        Check.due("20 a and c", b.parting(0, 4), 2);
        Check.due("20 two letters", b.parting(0, 3), 2);
        Check.due("21 a", b.partingAt(0, 1, 0), 1);
        Check.due("21 c", b.partingAt(0, 1, 1), 3);
    }

    /** "the couple: the least p, then q, of which a way round does not" */
    private static void partingLeast() {
        CostBench b = new CostBench();
        // (2, 3) and (1, 4) part, and so do they turned: 1 is less than 2, 3, 4.
        Check.load(b, 0, "states 5;arc 0 3 a a 0;arc 0 2 a a 0;arc 3 3 a a 1;arc 2 2 a a 2;arc 0 4 b b 0;arc 0 1 b b 0;"
                + "arc 4 4 b b 1;arc 1 1 b b 2;");
        int[] want = {1, 4, 1, 1, 1};
        for (int what = 0; what <= 4; what++) {
            Check.due("20 parting " + what, b.parting(0, what), want[what]);
        }
        // Of one p the least q.
        Check.load(b, 0, "states 4;arc 0 1 a a 0;arc 0 3 a a 0;arc 0 2 a a 0;arc 1 1 b b 5;arc 2 2 b b 2;"
                + "arc 3 3 b b 3;");
        Check.due("20 p", b.parting(0, 0), 1);
        Check.due("20 q", b.parting(0, 1), 2);
        Check.due("20 pays", b.parting(0, 4), 3);
        // A couple that is not come to does not count.
        Check.load(b, 0, "states 5;arc 3 1 a a 0;arc 3 2 a a 0;arc 1 1 b b 5;arc 2 2 b b 2;arc 0 4 a a 0;arc 4 4 a a 1;"
                + "arc 4 4 a a 3;");
        Check.due("20 p", b.parting(0, 0), 4);
        Check.due("20 q", b.parting(0, 1), 4);
        Check.due("20 pays", b.parting(0, 4), -2);
    }

    /** "what V pays, first less second": from the couple on, whatever was paid on the way to it */
    private static void partingPaysFromThere() {
        CostBench b = new CostBench();
        Check.load(b, 0, "states 3;arc 0 1 a a 3;arc 0 2 a a 8;arc 1 1 b b 1;arc 2 2 b b 2;");
        Check.due("20 pays", b.parting(0, 4), -1);
        Check.load(b, 0, "states 4;arc 0 1 a a 9;arc 0 2 a a 2;arc 1 3 b b 7;arc 3 1 c c 4;arc 2 2 b b 1;"
                + "arc 2 2 c c 1;");
        Check.due("20 pays", b.parting(0, 4), 9);
        Check.due("20 V", b.parting(0, 3), 2);
        // What pays 7 at once and takes it back on the way round is no parting.
        Check.load(b, 0, "states 4;arc 0 1 a a 9;arc 0 2 a a 2;arc 1 3 b b 7;arc 3 1 c c 0;arc 2 2 b b 0;"
                + "arc 2 2 c c 7;");
        Check.due("19 twins", b.twins(0), 1);
    }

    /** "BACK from x: the shortest row of LETTERS to (p, q)", in the order in which they are gone */
    private static void partingBackLetters() {
        CostBench b = new CostBench();
        // By a both to (3, 2) paying 1, by b paying 2: shown by b; back by c, d, a.
        Check.load(b, 0, "states 6;arc 0 1 d d 0;arc 0 2 d d 0;arc 1 3 a a 1;arc 1 3 b b 2;arc 3 4 c c 0;arc 4 5 d d 0;"
                + "arc 5 1 a a 0;arc 2 2 a a 0;arc 2 2 b b 0;arc 2 2 c c 0;arc 2 2 d d 0;");
        String v = "bcda";
        Check.due("20 V", b.parting(0, 3), 4);
        Check.due("20 pays", b.parting(0, 4), 2);
        for (int k = 0; k < 4; k++) {
            Check.due("21 V " + k, b.partingAt(0, 1, k), letter(v.charAt(k)));
        }
    }

    private static String ring(int states) {
        StringBuilder t = new StringBuilder("states " + states + ";");
        for (int i = 0; i < states; i++) {
            t.append("arc").append(i).append(' ').append((i + 1) % states).append("a a1;");
        }
        return t.toString();
    }

    /** U and V of 308 LETTERS: rings of 28 and 11 states behind a START make forty, that meet again behind 308. */
    private static void partingLong() {
        CostBench b = new CostBench();
        Check.load(b, 0, ring(4));
        Check.load(b, 1, ring(7));
        Check.load(b, 2, ring(11));
        Check.due("6 a ring of 28", b.join(8, 0, 1, 3), 28);
        Check.due("6 forty states", b.join(9, 3, 2, 4), 40);
        Check.due("5 free", b.make(4, 4, 5), 40);
        int[] want = {1, 29, 308, 308, 308};
        for (int what = 0; what <= 4; what++) {
            Check.due("20 parting " + what, b.parting(5, what), want[what]);
        }
        for (int which = 0; which <= 1; which++) {
            Check.due("21 the first", b.partingAt(5, which, 0), 1);
            Check.due("21 the last", b.partingAt(5, which, 307), 1);
            Check.due("21 none", b.partingAt(5, which, 308), -1);
        }
        Check.due("20 as it was", b.parting(5, 2), 308);
    }

    /** BACK through all of forty STATES: a ring with two ARCS from START to the next. */
    private static void partingForty() {
        CostBench b = new CostBench();
        Check.load(b, 0, ring(5) + "arc0 1a b5;");
        Check.load(b, 1, ring(8) + "arc0 1b a0;");
        Check.due("6 forty states", b.join(8, 0, 1, 2), 40);
        Check.due("8 one arc more", b.told(2, 1), 41);
        // The two cost 1 and 1, and 5 and 0.
        int[] want = {0, 0, 0, 40, -3};
        for (int what = 0; what <= 4; what++) {
            Check.due("20 parting " + what, b.parting(2, what), want[what]);
        }
        Check.due("21 the last", b.partingAt(2, 1, 39), 1);
        Check.due("21 none", b.partingAt(2, 1, 40), -1);
    }

    /** "IllegalStateException: it is not PLAIN (so below)" */
    private static void notPlain() {
        String[] texts = {"arc 0 0 a b 1;", "arc 0 0 - - 1;", "arc 0 0 - a 1;", "arc 0 0 a - 1;",
            "arc 0 0 a a 1;arc 0 0 b b 1;arc 1 1 - - 0;"};
        for (String text : texts) {
            CostBench b = new CostBench();
            Check.load(b, 0, "states 2;" + text);
            String before = Check.all(b);
            Check.badState("19 " + text, () -> b.twins(0));
            Check.badState("20 " + text, () -> b.parting(0, 0));
            Check.badState("21 " + text, () -> b.partingAt(0, 0, 0));
            Check.badState("21 no such letter either " + text, () -> b.partingAt(0, 1, -7));
            Check.due("26 counted", b.status(2), 4);
            Check.badArgument("20 ahead of that " + text, () -> b.parting(0, 5));
            Check.badArgument("21 ahead of that " + text, () -> b.partingAt(0, 2, 0));
            Check.due("26 counted", b.status(1), 2);
            Check.same("19 refused", Check.all(b), before);
        }
    }

    // ---- promises 22 to 25

    /** "AHEAD of a STATE (without its being TRIMMED); NONE: none" */
    private static void aheadNone() {
        CostBench b = new CostBench();
        Check.load(b, 0, "states 6;start 900;final 3 0;final 4 7;arc 0 1 a a 1;arc 2 3 a a 4;arc 2 4 - - 0;"
                + "arc 5 2 b - 1;arc 3 3 a a 0;");
        int[] want = {-1, -1, 4, 0, 7, 5};
        for (int q = 0; q < 6; q++) {
            Check.due("22 of " + q, b.ahead(0, q), want[q]);
        }
        Check.due("11 no path", b.least(0), -1);
    }

    /** "The STATE that is made of it by MERGED." */
    private static void mergedStates() {
        CostBench b = new CostBench();
        Check.load(b, 0, "states 12;final 3 0;final 7 0;final 11 1;");
        int[] want = {0, 0, 0, 1, 0, 0, 0, 1, 0, 0, 0, 2};
        for (int q = 0; q < 12; q++) {
            Check.due("23 of " + q, b.merged(0, q), want[q]);
        }
        Check.due("5 as many", b.make(7, 0, 1), 3);
        Check.load(b, 0, chain(11));
        for (int q = 0; q < 12; q++) {
            Check.due("23 each its own, " + q, b.merged(0, q), q);
        }
    }

    /** "START COSTS, STATES, FINAL costs, ARCS, all in order" */
    private static void alikeOrNot() {
        CostBench b = new CostBench();
        Check.due("24 new ones", b.alike(0, 5) ? 1 : 0, 1);
        Check.load(b, 0, "states 2;final 1 0;");
        Check.due("24 itself", b.alike(0, 0) ? 1 : 0, 1);
        String[] others = {"states 2;", "states 3;final 1 0;", "states 2;final 0 0;", "states 2;final 1 0;final 0 0;",
            "states 2;final 1 1;", "states 2;final 1 0;start 1;", "states 2;final 1 0;arc 0 0 - - 0;"};
        for (String other : others) {
            Check.load(b, 1, other);
            Check.due("24 " + other, b.alike(0, 1) ? 1 : 0, 0);
            Check.due("24 the other way " + other, b.alike(1, 0) ? 1 : 0, 0);
        }
        // What was there ahead of it does not count.
        Check.load(b, 1, "states 12;final 11 4;arc 0 1 a a 3;");
        Check.load(b, 1, "states 2;final 1 0;");
        Check.due("24 told anew", b.alike(0, 1) ? 1 : 0, 1);
    }

    /** "From 0 on, of all SLOTS ...": as a long, that wraps round */
    private static void printWraps() {
        CostBench b = new CostBench();
        BigInteger sum = BigInteger.ZERO;
        BigInteger by = BigInteger.valueOf(31);
        for (int s = 0; s <= 5; s++) {
            Check.load(b, s, "states " + (12 - s) + ";start " + (990 + s) + ";final 0 77;"
                    + "arc0 0a a999;".repeat(20));
            sum = sum.multiply(by).add(BigInteger.valueOf(12 - s));
            sum = sum.multiply(by).add(BigInteger.valueOf(990 + s));
            for (int a = 0; a < 20; a++) {
                sum = sum.multiply(by).add(BigInteger.valueOf(999));
            }
        }
        Check.due("25 print", b.print(), sum.longValue());
        long small = 0;
        for (int i = 0; i < 6; i++) {
            small = (small * 31 + 1) * 31;
        }
        Check.due("25 of a new one", new CostBench().print(), small);
    }

    // ---- the most states, arcs and costs there are

    /** "STATES 0 to n less 1 (n 1 to 40)", "ARCS (120 at most)": three letters go on from each state of a ring. */
    private static void fullest() {
        CostBench b = new CostBench();
        Check.load(b, 0, threeRing(5, 1));
        Check.load(b, 1, threeRing(8, 0));
        Check.due("6 forty states", b.join(8, 0, 1, 2), 40);
        int[] told = {40, 120, 0, 1, 1, 1, 40, 0, 40, 0, 3};
        for (int what = 0; what <= 10; what++) {
            Check.due("8 told " + what, b.told(2, what), told[what]);
        }
        int[] arc = {39, 0, 3, 3, 3};
        for (int what = 0; what <= 4; what++) {
            Check.due("9 the last arc, " + what, b.arc(2, 119, what), arc[what]);
        }
        Check.noSuch("9 no more", () -> b.arc(2, 120, 0));
        Check.due("10 the last state", b.last(2, 39), 0);
        Check.noSuch("10 no more", () -> b.last(2, 40));
        Check.noSuch("22 no more", () -> b.ahead(2, 40));
        Check.noSuch("23 no more", () -> b.merged(2, 40));
        Check.due("22 ahead", b.ahead(2, 39), 0);
        Check.due("23 merged", b.merged(2, 39), 0);
        Check.due("13 word", Check.word(b, 2, "c".repeat(20)), 60);
        Check.due("14 couple", Check.couple(b, 2, "c".repeat(20) + ":" + "c".repeat(20)), 60);
        Check.due("15 words", b.words(2, 8), 6561);
        Check.due("16 least", b.worst(2, 8, 0), 8);
        Check.due("16 greatest", b.worst(2, 8, 1), 24);
        Check.due("17 paths", b.paths(2, 25), 847288609443L);
        Check.due("17 paths", b.paths(2, 26), 1000000000000L);
        Check.due("17 paths", b.paths(2, 30), 1000000000000L);
        Check.due("18 apart", b.apart(2, 3, -1), 0);
        Check.due("19 twins", b.twins(2), 1);
        Check.due("12 path", b.path(2, -1), 0);
        fullestMade(b);
    }

    private static String threeRing(int states, int cost) {
        StringBuilder t = new StringBuilder("states " + states + ";");
        for (int i = 0; i < states; i++) {
            t.append("final").append(i).append(" 0;");
            for (int x = 1; x <= 3; x++) {
                char sign = (char) ('a' + x - 1);
                t.append("arc").append(i).append(' ').append((i + 1) % states).append(sign).append(' ').append(sign)
                        .append(cost * x).append(';');
            }
        }
        return t.toString();
    }

    private static void fullestMade(CostBench b) {
        for (int what : new int[] {0, 1, 2, 4, 5, 6}) {
            Check.due("5 made " + what, b.make(what, 2, 3), 40);
            Check.due("24 alike " + what, b.alike(2, 3) ? 1 : 0, 1);
        }
        Check.due("18 none apart", b.apart(2, 3, -1), -1);
        Check.due("5 merged", b.make(7, 2, 4), 1);
        Check.machine("5 merged", b, 4, "1 start 0 final 0=0; 0>0 aa1; 0>0 bb2; 0>0 cc3");
        Check.due("18 none apart from that", b.apart(2, 4, -1), -1);
        Check.badState("5 turned", () -> b.make(3, 2, 5));
        Check.badState("6 either", () -> b.join(9, 2, 4, 5));
        Check.badState("6 then", () -> b.join(10, 2, 4, 5));
        Check.badState("6 then, the other way", () -> b.join(10, 4, 2, 5));
        Check.due("6 behind", b.join(8, 2, 4, 5), 40);
        Check.due("6 both costs", b.arc(5, 119, 4), 6);
        Check.due("7 undo", b.undo(), 9);
        Check.machine("7 as ahead", b, 5, "1 start 0 final");
    }

    /**
     * A ring of forty states, each arc of it a million; the last arc reads a or writes a, all others are silent. START
     * COST is a million, and so is the FINAL cost of the last state.
     */
    private static CostBench dearRing() {
        CostBench b = new CostBench();
        costly(b, 3, 4, "states 1;start %;final 0 %;arc 0 0 a a %;arc 0 0 b b %;arc 0 0 c c %;", MILLION);
        Check.load(b, 0, "states 5;final 4 0;arc0 1- c0;arc1 2- c0;arc2 3- c0;arc3 4- c0;arc4 0- a0;arc4 0a b0;");
        b.join(8, 0, 3, 0);
        StringBuilder t = new StringBuilder("states 8;final 7 0;arc7 0b -0;arc7 0a a0;");
        for (int i = 0; i < 8; i++) {
            t.append("arc").append(i).append(' ').append((i + 1) % 8).append("c -0;");
            if (i < 7) {
                t.append("arc").append(i).append(' ').append(i + 1).append("a -0;");
            }
        }
        Check.load(b, 1, t.toString());
        Check.due("6 forty states", b.join(8, 0, 1, 0), 40);
        return b;
    }

    /** Costs of a million on forty STATES, twenty LETTERS and twenty more: none wraps round. */
    private static void dearest() {
        CostBench b = dearRing();
        Check.due("8 start cost", b.told(0, 2), MILLION);
        Check.due("8 arcs", b.told(0, 1), 41);
        Check.due("11 least", b.least(0), 41 * MILLION);
        Check.due("12 arcs", b.path(0, -1), 39);
        Check.due("22 ahead of START", b.ahead(0, 0), 40 * MILLION);
        Check.due("13 no letters", b.word(0, 0), 41 * MILLION);
        Check.due("13 twenty letters", Check.word(b, 0, "a".repeat(20)), 841 * MILLION);
        Check.due("14 twenty and none", Check.couple(b, 0, "a".repeat(20) + ":"), 841 * MILLION);
        Check.due("14 none and twenty", Check.couple(b, 0, ":" + "a".repeat(20)), 841 * MILLION);
        Check.due("14 twenty and twenty", Check.couple(b, 0, "a".repeat(20) + ":" + "a".repeat(20)), 1641 * MILLION);
        Check.due("15 words", b.words(0, 8), 1);
        Check.due("16 least", b.worst(0, 8, 0), 361 * MILLION);
        Check.due("16 greatest", b.worst(0, 8, 1), 361 * MILLION);
        Check.due("18 apart from a new one", b.apart(0, 2, -1), 0);
        Check.badState("5 pushed", () -> b.make(6, 0, 1));
        Check.badState("5 turned", () -> b.make(3, 0, 1));
        b.make(2, 0, 1);
        Check.badState("5 free", () -> b.make(4, 1, 1));
    }
}
