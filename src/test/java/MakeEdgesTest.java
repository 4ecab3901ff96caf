/** The edges of MAKING a MACHINE of others: each method stands for a sentence of the document, which it tells. */
public final class MakeEdgesTest {
    private static final int MILLION = 1000000;
    private static final int HELP = 5;

    private MakeEdgesTest() {
    }

    public static void main(String[] args) {
        madeOfNew();
        slotsOfMakes();
        whatOfMakes();
        notFit();
        stateOfTurned();
        stateOfOneWay();
        stateOfBehind();
        stateOfEitherAndThen();
        arcOfTurned();
        arcOfFree();
        arcOfOneWay();
        arcOfBehind();
        arcOfEitherAndThen();
        costOfFree();
        costOfOneWay();
        dueOfOneWay();
        costOfPushed();
        costOfBehind();
        costOfThen();
        costThatOnlyMoves();
        trimmedToStart();
        turnedFinals();
        freeWays();
        oneWayRows();
        pushedWithoutPath();
        mergedToOne();
        mergedFirstOfSeveral();
        behindOrders();
        behindForty();
        ontoThemselves();
        Check.end();
    }

    // ---- what the methods below build with

    private static String ring(int states) {
        StringBuilder t = new StringBuilder("states " + states + ";");
        for (int i = 0; i < states; i++) {
            t.append("arc").append(i).append(' ').append((i + 1) % states).append("a a1;");
        }
        return t.toString();
    }

    /** One state with so many arcs round it; four times thirty at most are set one then the other. */
    private static void loops(CostBench b, int slot, int count) {
        Check.load(b, slot, "states 1;" + "arc0 0a a0;".repeat(Math.min(count, 30)));
        for (int done = 30; done < count; done += 30) {
            Check.load(b, HELP, "states 1;" + "arc0 0a a0;".repeat(Math.min(count - done, 30)));
            b.join(10, slot, HELP, slot);
        }
        Check.due("arcs round it", b.told(slot, 1), count);
    }

    /** A slot with so many states and nothing else. */
    private static void bare(CostBench b, int slot, int count) {
        Check.load(b, slot, "states " + Math.min(count, 12) + ";");
        for (int done = 12; done < count; done += 12) {
            Check.load(b, HELP, "states " + Math.min(count - done, 12) + ";");
            b.join(10, slot, HELP, slot);
        }
        Check.due("states", b.told(slot, 0), count);
    }

    /** A text of one state whose '%' is a cost: costs above 999 come of setting it behind itself, bit by bit. */
    private static void costly(CostBench b, int slot, String shape, int cost) {
        Check.load(b, slot, shape.replace("%", String.valueOf(cost >> 11)));
        for (int bit = 10; bit >= 0; bit--) {
            b.join(8, slot, slot, slot);
            if ((cost >> bit & 1) == 1) {
                Check.load(b, HELP, shape.replace("%", "1"));
                b.join(8, slot, HELP, slot);
            }
        }
    }

    /** Loads a text and makes each of its arcs that writes b so much dearer. */
    private static void dearB(CostBench b, int slot, String text, int cost) {
        costly(b, 4, "states 1;final 0 0;arc 0 0 a a 0;arc 0 0 b b %;arc 0 0 c c 0;", cost);
        Check.load(b, slot, text);
        b.join(8, slot, 4, slot);
    }

    private static void dearFinal(CostBench b, int slot, String text, int cost) {
        costly(b, 4, "states 1;final 0 %;arc 0 0 a a 0;arc 0 0 b b 0;", cost);
        Check.load(b, slot, text);
        b.join(8, slot, 4, slot);
    }

    private static void dearStart(CostBench b, int slot, String text, int cost) {
        costly(b, 4, "states 1;start %;final 0 0;arc 0 0 a a 0;arc 0 0 b b 0;", cost);
        Check.load(b, slot, text);
        b.join(8, slot, 4, slot);
    }

    /** TOO LARGE: refused, with nothing done. */
    private static void tooLarge(String told, CostBench b, Check.Call call) {
        String before = Check.all(b);
        int refused = b.status(2);
        Check.badState(told, call);
        Check.due(told + ", counted", b.status(2), refused + 1);
        Check.same(told + ", nothing done", Check.all(b), before);
    }

    // ---- edges

    /** "at first one STATE, nothing else": made of such ones */
    private static void madeOfNew() {
        String[] want = {"1 start 0 final", "1 start 0 final", "1 start 0 final", "2 start 0 final 1=0",
            "1 start 0 final", "1 start 0 final", "1 start 0 final", "1 start 0 final"};
        for (int what = 0; what <= 7; what++) {
            CostBench b = new CostBench();
            Check.due("5 states of " + what, b.make(what, 0, 1), what == 3 ? 2 : 1);
            Check.machine("5 of a new one " + what, b, 1, want[what]);
        }
        String[] joined = {"1 start 0 final", "3 start 0 final; 0>1 --0; 0>2 --0", "2 start 0 final"};
        for (int what = 8; what <= 10; what++) {
            CostBench b = new CostBench();
            Check.due("6 states of " + what, b.join(what, 0, 1, 2), joined[what - 8].charAt(0) - '0');
            Check.machine("6 of new ones " + what, b, 2, joined[what - 8]);
        }
    }

    /** "NoSuchElementException: no such SLOT ... (so below, ahead of others)" */
    private static void slotsOfMakes() {
        CostBench b = new CostBench();
        Check.load(b, 0, "states 2;arc 0 1 a b 1;");
        for (int s : new int[] {-1, 6, Integer.MIN_VALUE, Integer.MAX_VALUE}) {
            String before = Check.all(b);
            for (int what : new int[] {-1, 0, 4, 5, 7, 8}) {
                Check.noSuch("5 slot " + s, () -> b.make(what, s, 0));
                Check.noSuch("5 to " + s, () -> b.make(what, 0, s));
            }
            for (int what : new int[] {7, 8, 9, 10, 11}) {
                Check.noSuch("6 first " + s, () -> b.join(what, s, 0, 0));
                Check.noSuch("6 second " + s, () -> b.join(what, 0, s, 0));
                Check.noSuch("6 to " + s, () -> b.join(what, 0, 0, s));
            }
            Check.same("5, 6 refused", Check.all(b), before);
        }
        Check.due("26 all of one reason", b.status(0), 4 * 27);
        Check.due("26 none of another", b.status(1) + b.status(2), 0);
    }

    /** "(what 0 to 7) ... IllegalArgumentException: another what. IllegalStateException (behind that)"; 8 to 10 */
    private static void whatOfMakes() {
        CostBench b = new CostBench();
        Check.load(b, 0, "states 2;arc 0 1 a b 1;");
        bare(b, 1, 40);
        String before = Check.all(b);
        for (int what : new int[] {-1, 8, 9, 10, 11, Integer.MIN_VALUE, Integer.MAX_VALUE}) {
            Check.badArgument("5 what " + what, () -> b.make(what, 0, 1));
            Check.badArgument("5 what, too large " + what, () -> b.make(what, 1, 1));
        }
        for (int what : new int[] {-1, 0, 4, 7, 11, Integer.MIN_VALUE, Integer.MAX_VALUE}) {
            Check.badArgument("6 what " + what, () -> b.join(what, 0, 0, 1));
            Check.badArgument("6 what, too large " + what, () -> b.join(what, 1, 1, 1));
        }
        Check.same("5, 6 refused", Check.all(b), before);
        Check.due("26 all of one reason", b.status(1), 28);
        Check.due("26 none of another", b.status(0) + b.status(2), 0);
    }

    /** "it is no ACCEPTOR (4), not PLAIN (5)": one ARC is enough, the others may be anything */
    private static void notFit() {
        String[] texts = {"arc 0 1 a a 1;arc 1 1 b b 1;", "arc 0 1 a a 1;arc 1 1 - - 1;",
            "arc 0 1 a a 1;arc 1 1 a b 1;", "arc 0 1 a a 1;arc 1 1 - b 1;", "arc 0 1 a a 1;arc 1 1 b - 1;", ""};
        boolean[] acceptor = {true, true, false, false, false, true};
        boolean[] plain = {true, false, false, false, false, true};
        for (int i = 0; i < texts.length; i++) {
            CostBench b = new CostBench();
            Check.load(b, 0, "states 2;" + texts[i]);
            if (acceptor[i]) {
                Check.due("5 free of " + texts[i], b.make(4, 0, 1), 2);
            } else {
                tooLarge("5 free of " + texts[i], b, () -> b.make(4, 0, 1));
            }
            if (plain[i]) {
                Check.due("5 one-way of " + texts[i], b.make(5, 0, 2), texts[i].isEmpty() ? 1 : 2);
            } else {
                tooLarge("5 one-way of " + texts[i], b, () -> b.make(5, 0, 2));
            }
            for (int what : new int[] {0, 1, 2, 3, 6, 7}) {
                Check.due("5 all others of any, " + what, b.make(what, 0, 3) > 0 ? 1 : 0, 1);
            }
        }
    }

    /** "a 41st STATE": START of TURNED is one more */
    private static void stateOfTurned() {
        CostBench b = new CostBench();
        bare(b, 0, 39);
        Check.due("5 turned, 40 states", b.make(3, 0, 1), 40);
        Check.machine("5 turned, 40 states", b, 1, "40 start 0 final 1=0");
        tooLarge("5 turned, a 41st state", b, () -> b.make(3, 1, 2));
        tooLarge("5 turned, a 41st state, onto itself", b, () -> b.make(3, 1, 1));
    }

    /**
     * "a 41st STATE": rings of 3 and 4 states come to by a, b, c with three residues make 12 rows each; by d one ring
     * alone makes 3 or 4 more, and START is one.
     */
    private static void stateOfOneWay() {
        String rings = "states 8;arc0 1a a0;arc0 4a a0;arc0 1b b0;arc0 4b b1;arc0 1c c0;arc0 4c c2;"
                + "arc1 2a a0;arc2 3a a0;arc3 1a a0;arc4 5a a0;arc5 6a a0;arc6 7a a0;arc7 4a a0;";
        CostBench b = new CostBench();
        Check.load(b, 0, rings);
        Check.due("5 one-way, 37 states", b.make(5, 0, 1), 37);
        Check.load(b, 0, rings + "arc0 1d d0;");
        Check.due("5 one-way, 40 states", b.make(5, 0, 1), 40);
        Check.load(b, 0, rings + "arc0 4d d0;");
        tooLarge("5 one-way, a 41st state", b, () -> b.make(5, 0, 1));
        Check.load(b, 0, "states 3;arc0 1a a0;arc0 2a a0;arc1 1a a0;arc2 2a a1;");
        tooLarge("5 one-way, residues without end", b, () -> b.make(5, 0, 1));
    }

    /** "a 41st STATE": rings of 5 and 8 states behind one another make 40, one more with a way into both */
    private static void stateOfBehind() {
        CostBench b = new CostBench();
        Check.load(b, 0, ring(5));
        Check.load(b, 1, ring(8));
        Check.due("6 behind, 40 states", b.join(8, 0, 1, 2), 40);
        Check.load(b, 0, "states 6;arc0 1a a0;arc1 2a a0;arc2 3a a0;arc3 4a a0;arc4 5a a0;arc5 1a a0;");
        Check.load(b, 1, "states 9;arc0 1a a0;arc1 2a a0;arc2 3a a0;arc3 4a a0;arc4 5a a0;arc5 6a a0;arc6 7a a0;"
                + "arc7 8a a0;arc8 1a a0;");
        tooLarge("6 behind, a 41st state", b, () -> b.join(8, 0, 1, 3));
    }

    /** "a 41st STATE" of EITHER, whose START is new, and of THEN */
    private static void stateOfEitherAndThen() {
        CostBench b = new CostBench();
        bare(b, 0, 20);
        bare(b, 1, 19);
        Check.due("6 either, 40 states", b.join(9, 0, 1, 2), 40);
        tooLarge("6 either, a 41st state", b, () -> b.join(9, 0, 0, 3));
        Check.due("6 then, 40 states", b.join(10, 0, 0, 3), 40);
        bare(b, 1, 21);
        tooLarge("6 then, a 41st state", b, () -> b.join(10, 0, 1, 3));
        tooLarge("6 then, a 41st state, the other way", b, () -> b.join(10, 1, 0, 3));
        bare(b, 0, 40);
        tooLarge("6 then, 80 states", b, () -> b.join(10, 0, 0, 0));
        tooLarge("6 either, 81 states", b, () -> b.join(9, 0, 0, 0));
    }

    /** "a 121st ARC" of TURNED, that has one for each FINAL cost */
    private static void arcOfTurned() {
        CostBench b = new CostBench();
        loops(b, 0, 120);
        Check.due("5 turned, 120 arcs", b.make(3, 0, 1), 5);
        Check.due("5 turned, 120 arcs", b.told(1, 1), 120);
        // With 90 arcs, then 29 and a final cost: 119 and one. With 30 and a final cost: 120 and one.
        loops(b, 0, 90);
        Check.load(b, 1, "states 1;final 0 7;" + "arc0 0a a0;".repeat(29));
        b.join(10, 0, 1, 2);
        b.make(3, 2, 3);
        Check.due("5 turned, 120 arcs with a final cost", b.told(3, 1), 120);
        Check.load(b, 1, "states 1;final 0 7;" + "arc0 0a a0;".repeat(30));
        b.join(10, 0, 1, 2);
        tooLarge("5 turned, a 121st arc", b, () -> b.make(3, 2, 3));
    }

    /** Silent arcs from some states to the first, and from that by a letter to all. */
    private static String star(int states, int silent) {
        StringBuilder t = new StringBuilder("states " + states + ";");
        for (int i = 0; i < states; i++) {
            t.append("arc0 ").append(i).append("a a0;");
        }
        for (int i = 1; i <= silent; i++) {
            t.append("arc").append(i).append(" 0--0;");
        }
        return t.toString();
    }

    /** "a 121st ARC" of FREE: from 10 states to 12 states, from 11 to 11 */
    private static void arcOfFree() {
        CostBench b = new CostBench();
        Check.load(b, 0, star(12, 9));
        Check.due("5 free", b.make(4, 0, 1), 12);
        Check.due("5 free, 120 arcs", b.told(1, 1), 120);
        Check.load(b, 0, star(11, 10));
        tooLarge("5 free, a 121st arc", b, () -> b.make(4, 0, 1));
        Check.load(b, 0, star(12, 11));
        tooLarge("5 free, 144 arcs", b, () -> b.make(4, 0, 0));
    }

    /**
     * "a 121st ARC" of ONE-WAY: rings of 3 and 4 states by three letters, come to with three residues: 3 arcs from
     * START, 36 rows with 3 arcs each; by d from one state of four back to START: from 9 rows more.
     */
    private static void arcOfOneWay() {
        StringBuilder t = new StringBuilder("states 8;");
        t.append("arc0 1a a0;arc0 4a a0;arc0 1b b0;arc0 4b b1;arc0 1c c0;arc0 4c c2;");
        int[] next = {0, 2, 3, 1, 5, 6, 7, 4};
        for (int s = 1; s <= 7; s++) {
            for (char x = 'a'; x <= 'c'; x++) {
                t.append("arc").append(s).append(' ').append(next[s]).append(x).append(' ').append(x).append("0;");
            }
        }
        CostBench b = new CostBench();
        Check.load(b, 0, t.toString());
        Check.due("5 one-way", b.make(5, 0, 1), 37);
        Check.due("5 one-way, 111 arcs", b.told(1, 1), 111);
        Check.load(b, 0, t + "arc4 0d d0;");
        Check.due("5 one-way", b.make(5, 0, 1), 37);
        Check.due("5 one-way, 120 arcs", b.told(1, 1), 120);
        Check.load(b, 0, t + "arc4 0d d0;arc0 0d d0;");
        tooLarge("5 one-way, a 121st arc", b, () -> b.make(5, 0, 1));
    }

    /** "a 121st ARC" of BEHIND: 10 and 12 that match, 11 and 11 */
    private static void arcOfBehind() {
        CostBench b = new CostBench();
        loops(b, 0, 10);
        loops(b, 1, 12);
        loops(b, 2, 11);
        Check.due("6 behind", b.join(8, 0, 1, 3), 1);
        Check.due("6 behind, 120 arcs", b.told(3, 1), 120);
        Check.due("6 behind", b.join(8, 1, 0, 3), 1);
        Check.due("6 behind, 120 arcs", b.told(3, 1), 120);
        tooLarge("6 behind, a 121st arc", b, () -> b.join(8, 2, 2, 3));
        loops(b, 4, 30);
        tooLarge("6 behind, 900 arcs", b, () -> b.join(8, 4, 4, 3));
    }

    /** "a 121st ARC" of EITHER, that has two of its own, and of THEN, that has one for each FINAL cost of the first */
    private static void arcOfEitherAndThen() {
        CostBench b = new CostBench();
        loops(b, 0, 90);
        loops(b, 1, 28);
        b.join(9, 0, 1, 2);
        Check.due("6 either, 120 arcs", b.told(2, 1), 120);
        loops(b, 1, 29);
        tooLarge("6 either, a 121st arc", b, () -> b.join(9, 0, 1, 3));
        tooLarge("6 either, a 121st arc, the other way", b, () -> b.join(9, 1, 0, 3));
        Check.load(b, 1, "states 1;final 0 5;" + "arc0 0a a0;".repeat(29));
        b.join(10, 1, 0, 2);
        Check.due("6 then, 120 arcs with a final cost", b.told(2, 1), 120);
        b.join(10, 0, 1, 2);
        Check.due("6 then, 119 arcs: the second's final costs make none", b.told(2, 1), 119);
        Check.load(b, 1, "states 2;final 0 5;final 1 5;" + "arc0 0a a0;".repeat(29));
        tooLarge("6 then, a 121st arc", b, () -> b.join(10, 1, 0, 2));
    }

    /** "a cost above 1,000,000" of FREE: a SILENT way and an ARC together, and a FINAL cost */
    private static void costOfFree() {
        String arc = "states 3;final 2 0;arc 0 1 - - 1;arc 1 2 b b 0;";
        CostBench b = new CostBench();
        dearB(b, 0, arc, MILLION - 1);
        Check.due("5 free", b.make(4, 0, 1), 3);
        Check.machine("5 free, an arc of a million", b, 1, "3 start 0 final 2=0; 0>2 bb1000000; 1>2 bb999999");
        dearB(b, 0, arc, MILLION);
        tooLarge("5 free, an arc above", b, () -> b.make(4, 0, 1));
        dearFinal(b, 0, "states 2;final 1 0;arc 0 1 - - 1;", MILLION - 1);
        Check.due("5 free", b.make(4, 0, 1), 2);
        Check.machine("5 free, a final cost of a million", b, 1, "2 start 0 final 0=1000000 1=999999");
        dearFinal(b, 0, "states 2;final 1 0;arc 0 1 - - 1;", MILLION);
        tooLarge("5 free, a final cost above", b, () -> b.make(4, 0, 1));
        // The least counts: a way that is too dear beside a cheap one does no harm.
        dearB(b, 0, arc + "arc 0 2 b c 7;", MILLION);
        b.make(1, 0, 0);
        Check.due("5 free, the least counts", b.make(4, 0, 1), 3);
        Check.machine("5 free, the least counts", b, 1, "3 start 0 final 2=0; 0>2 bb7; 1>2 bb1000000");
    }

    /** "a cost above 1,000,000" of ONE-WAY: what was yet to pay and an ARC, or a FINAL cost */
    private static void costOfOneWay() {
        String arc = "states 4;final 3 0;arc 0 1 a a 0;arc 0 2 a a 1;arc 2 3 b b 0;";
        CostBench b = new CostBench();
        dearB(b, 0, arc, MILLION - 1);
        Check.due("5 one-way", b.make(5, 0, 1), 3);
        Check.machine("5 one-way, an arc of a million", b, 1, "3 start 0 final 2=0; 0>1 aa0; 1>2 bb1000000");
        dearB(b, 0, arc, MILLION);
        tooLarge("5 one-way, an arc above", b, () -> b.make(5, 0, 1));
        String end = "states 3;final 2 0;arc 0 1 a a 0;arc 0 2 a a 1;";
        dearFinal(b, 0, end, MILLION - 1);
        Check.due("5 one-way", b.make(5, 0, 1), 2);
        Check.machine("5 one-way, a final cost of a million", b, 1, "2 start 0 final 1=1000000; 0>1 aa0");
        dearFinal(b, 0, end, MILLION);
        tooLarge("5 one-way, a final cost above", b, () -> b.make(5, 0, 1));
    }

    /** The same: what a STATE has yet to pay is no cost of the MACHINE until an ARC or a FINAL cost pays it. */
    private static void dueOfOneWay() {
        String text = "states 5;arc 0 1 a a 0;arc 0 2 a b 0;arc 1 3 a a 0;arc 2 4 a b 0;";
        CostBench b = new CostBench();
        dearB(b, 0, text + "final 3 0;final 4 0;", MILLION);
        b.make(1, 0, 0);
        Check.due("5 two millions yet to pay", b.make(5, 0, 1), 3);
        Check.machine("5 two millions yet to pay", b, 1, "3 start 0 final 2=0; 0>1 aa0; 1>2 aa0");
        dearB(b, 0, text + "final 4 0;", MILLION);
        b.make(1, 0, 0);
        tooLarge("5 two millions paid in the end", b, () -> b.make(5, 0, 1));
    }

    /** "a cost above 1,000,000" of PUSHED: an ARC, and START COST */
    private static void costOfPushed() {
        CostBench b = new CostBench();
        dearB(b, 0, "states 2;final 0 0;final 1 1;arc 0 1 b b 0;", MILLION - 1);
        Check.due("5 pushed", b.make(6, 0, 1), 2);
        Check.machine("5 pushed, an arc of a million", b, 1, "2 start 0 final 0=0 1=0; 0>1 bb1000000");
        dearB(b, 0, "states 2;final 0 0;final 1 1;arc 0 1 b b 0;", MILLION);
        tooLarge("5 pushed, an arc above", b, () -> b.make(6, 0, 1));
        dearStart(b, 0, "states 1;final 0 1;", MILLION - 1);
        Check.due("5 pushed", b.make(6, 0, 1), 1);
        Check.machine("5 pushed, start cost of a million", b, 1, "1 start 1000000 final 0=0");
        dearStart(b, 0, "states 1;final 0 1;", MILLION);
        tooLarge("5 pushed, start cost above", b, () -> b.make(6, 0, 1));
        // Two arcs of a million each to the end: AHEAD of START is above a million, and START COST would be.
        dearB(b, 0, "states 3;final 2 0;arc 0 1 b b 0;arc 1 2 b b 0;", MILLION);
        Check.due("22 two millions", b.ahead(0, 0), 2 * MILLION);
        tooLarge("5 pushed, start cost above by arcs", b, () -> b.make(6, 0, 1));
        // From START, that ends for nothing, an arc would have to pay both millions.
        dearB(b, 0, "states 4;final 0 0;final 3 0;arc 0 1 a a 0;arc 1 2 b b 0;arc 2 3 b b 0;", MILLION);
        tooLarge("5 pushed, an arc of two millions", b, () -> b.make(6, 0, 1));
        // AHEAD of two millions does no harm where START is a million from its end itself.
        costly(b, 4, "states 1;final 0 %;arc 0 0 a a 0;arc 0 0 b b %;", MILLION);
        Check.load(b, 0, "states 3;final 0 0;final 2 0;arc 0 1 a a 0;arc 1 2 b b 0;");
        b.join(8, 0, 4, 0);
        Check.due("22 two millions", b.ahead(0, 1), 2 * MILLION);
        Check.due("5 pushed", b.make(6, 0, 1), 3);
        Check.machine("5 pushed, a million apart", b, 1, "3 start 1000000 final 0=0 2=0; 0>1 aa1000000; 1>2 bb0");
    }

    /** "a cost above 1,000,000" of BEHIND: ARCS, FINAL costs and START COSTS both together */
    private static void costOfBehind() {
        String[] shapes = {"states 1;start %;final 0 0;", "states 1;final 0 %;",
            "states 2;final 1 0;arc 0 1 a a %;"};
        for (String shape : shapes) {
            CostBench b = new CostBench();
            costly(b, 0, shape, MILLION - 1);
            Check.load(b, 1, shape.replace("%", "1"));
            Check.due("6 behind", b.join(8, 0, 1, 2) > 0 ? 1 : 0, 1);
            Check.due("6 behind, a million", b.least(2), MILLION);
            tooLarge("6 behind, above", b, () -> b.join(8, 2, 1, 3));
            tooLarge("6 behind, above, the other way", b, () -> b.join(8, 1, 2, 3));
            tooLarge("6 behind, two millions", b, () -> b.join(8, 2, 2, 2));
            Check.load(b, 1, shape.replace("%", "0"));
            Check.due("6 behind, a million and nothing", b.join(8, 2, 1, 3) > 0 ? 1 : 0, 1);
        }
    }

    /** "a cost above 1,000,000" of THEN: a FINAL cost and START COST together */
    private static void costOfThen() {
        CostBench b = new CostBench();
        costly(b, 0, "states 1;final 0 %;", MILLION - 1);
        Check.load(b, 1, "states 1;start 1;final 0 3;");
        Check.due("6 then", b.join(10, 0, 1, 2), 2);
        Check.machine("6 then, an arc of a million", b, 2, "2 start 0 final 1=3; 0>1 --1000000");
        Check.load(b, 1, "states 1;start 2;final 0 3;");
        tooLarge("6 then, an arc above", b, () -> b.join(10, 0, 1, 2));
        costly(b, 0, "states 1;start %;", MILLION);
        Check.load(b, 1, "states 1;final 0 0;");
        Check.due("6 then, an arc of a million", b.join(10, 1, 0, 2), 2);
        Check.due("6 then, start cost of a million", b.join(10, 0, 1, 2), 2);
        Check.due("8 start cost", b.told(2, 2), MILLION);
        Check.load(b, 1, "states 1;final 0 1;");
        tooLarge("6 then, an arc above by one", b, () -> b.join(10, 1, 0, 2));
    }

    /** "All costs are 0 to 1,000,000": a million stays one where a cost only comes to another place */
    private static void costThatOnlyMoves() {
        CostBench b = new CostBench();
        costly(b, 0, "states 1;start %;", MILLION);
        Check.due("6 either", b.join(9, 0, 0, 1), 3);
        Check.machine("6 either", b, 1, "3 start 0 final; 0>1 --1000000; 0>2 --1000000");
        costly(b, 0, "states 1;final 0 %;", MILLION);
        Check.due("5 turned", b.make(3, 0, 1), 2);
        Check.machine("5 turned", b, 1, "2 start 0 final 1=0; 0>1 --1000000");
        Check.due("5 pushed", b.make(6, 0, 1), 1);
        Check.machine("5 pushed", b, 1, "1 start 1000000 final 0=0");
        for (int what : new int[] {0, 1, 2, 4, 5, 7}) {
            Check.due("5 made " + what, b.make(what, 0, 1), 1);
            Check.machine("5 made " + what, b, 1, "1 start 0 final 0=1000000");
        }
    }

    /** "the STATES that some PATH comes to, and START"; "ARCS between them that are of PATHS" */
    private static void trimmedToStart() {
        CostBench b = new CostBench();
        Check.load(b, 0, "states 3;start 5;arc 0 0 a a 1;arc 0 1 a a 1;arc 1 2 a a 1;");
        Check.due("5 no final cost at all", b.make(0, 0, 1), 1);
        Check.machine("5 no final cost at all", b, 1, "1 start 5 final");
        Check.load(b, 0, "states 3;start 5;final 2 1;arc 0 1 a a 1;arc 2 0 a a 1;arc 1 0 - - 0;");
        Check.due("5 none that is come to", b.make(0, 0, 1), 1);
        Check.machine("5 none that is come to", b, 1, "1 start 5 final");
        Check.load(b, 0, "states 3;final 0 1;arc 0 1 a a 1;arc 2 0 a a 1;arc 0 0 b - 4;");
        Check.due("5 START alone", b.make(0, 0, 1), 1);
        Check.machine("5 START alone", b, 1, "1 start 0 final 0=1; 0>0 b-4");
        Check.load(b, 0, "states 4;final 3 0;arc 0 3 a a 1;arc 3 1 a a 1;arc 1 3 a a 2;arc 2 3 a a 1;arc 1 1 c c 1;");
        Check.due("5 behind a final state too", b.make(0, 0, 1), 3);
        Check.machine("5 behind a final state too", b, 1, "3 start 0 final 2=0; 0>2 aa1; 2>1 aa1; 1>2 aa2; 1>1 cc1");
        // The last arc is the first of the path, and what only others lead to is not of any.
        Check.load(b, 0, "states 6;final 4 0;arc 3 4 a a 1;arc 2 3 a a 2;arc 1 2 - - 3;arc 0 1 a - 4;arc 5 3 b b 5;");
        Check.due("8 some path", b.told(0, 8), 5);
        Check.due("5 a chain from its end", b.make(0, 0, 1), 5);
        Check.machine("5 a chain from its end", b, 1, "5 start 0 final 4=0; 3>4 aa1; 2>3 aa2; 1>2 --3; 0>1 a-4");
        Check.load(b, 0, "states 4;final 3 0;arc 1 2 a a 1;arc 2 3 a a 1;arc 0 3 b b 7;arc 2 1 a a 1;");
        Check.due("8 some path", b.told(0, 8), 2);
        Check.due("5 not come to", b.make(0, 0, 1), 2);
        Check.machine("5 not come to", b, 1, "2 start 0 final 1=0; 0>1 bb7");
    }

    /** "from START, SILENT, to each STATE with a FINAL cost ...; the old START has FINAL cost 0, no other one" */
    private static void turnedFinals() {
        CostBench b = new CostBench();
        Check.load(b, 0, "states 3;start 8;final 2 0;final 0 7;final 1 3;arc 2 0 a b 1;arc 1 1 - c 2;");
        Check.due("5 all final", b.make(3, 0, 1), 4);
        Check.machine("5 all final", b, 1, "4 start 8 final 1=0; 0>1 --7; 0>2 --3; 0>3 --0; 1>3 ab1; 2>2 -c2");
        Check.load(b, 0, "states 2;start 8;arc 0 1 a b 1;");
        Check.due("5 none final", b.make(3, 0, 1), 3);
        Check.machine("5 none final", b, 1, "3 start 8 final 1=0; 2>1 ab1");
    }

    /** "SILENT way from p to q: the least of all rows of SILENT ARCS (0 from p to p)" */
    private static void freeWays() {
        CostBench b = new CostBench();
        Check.load(b, 0, "states 2;final 0 5;arc 0 0 - - 3;arc 0 0 - - 0;arc 0 1 a a 2;");
        Check.due("5 a silent ring", b.make(4, 0, 1), 2);
        Check.machine("5 a silent ring", b, 1, "2 start 0 final 0=5; 0>1 aa2");
        Check.load(b, 0, "states 2;start 6;final 1 1;arc 0 1 d d 4;arc 0 1 a a 9;arc 0 1 a a 2;arc 0 0 d d 1;");
        Check.due("5 none silent", b.make(4, 0, 1), 2);
        Check.machine("5 by letter, by state, the least", b, 1, "2 start 6 final 1=1; 0>1 aa2; 0>0 dd1; 0>1 dd4");
        // A chain of eleven silent arcs beside one that costs more.
        StringBuilder t = new StringBuilder("states 12;final 11 0;arc 0 11 - - 12;arc 11 0 c c 5;");
        for (int i = 10; i >= 0; i--) {
            t.append("arc ").append(i).append(' ').append(i + 1).append(" - - 1;");
        }
        Check.load(b, 0, t.toString());
        Check.due("5 a chain", b.make(4, 0, 1), 12);
        Check.due("5 its final cost", b.last(1, 0), 11);
        Check.due("5 its arcs", b.told(1, 1), 12);
        Check.due("5 its first arc", b.arc(1, 0, 4), 16);
        // By way of START, and to START.
        Check.load(b, 0, "states 4;final 0 2;arc 0 2 - - 1;arc 1 0 - - 3;arc 3 1 - - 4;arc 2 2 a a 5;arc 0 3 b b 6;");
        Check.due("5 by way of START", b.make(4, 0, 1), 4);
        Check.machine("5 by way of START", b, 1, "4 start 0 final 0=2 1=5 3=9; 0>2 aa6; 0>3 bb6; 1>2 aa9; 1>3 bb9; "
                + "2>2 aa5; 3>2 aa13; 3>3 bb13");
        Check.due("5 only silent ones", Check.load(b, 0, "states 2;arc 0 1 - - 1;arc 1 0 - - 1;"), 2);
        b.make(4, 0, 1);
        Check.machine("5 only silent ones", b, 1, "2 start 0 final");
    }

    /** "START: (0, 0) ...; rows that are alike are one"; what is not come to is not there */
    private static void oneWayRows() {
        CostBench b = new CostBench();
        Check.load(b, 0, "states 3;start 7;final 0 2;arc 1 2 a a 1;arc 2 0 b b 1;");
        Check.due("5 START alone", b.make(5, 0, 1), 1);
        Check.machine("5 START alone", b, 1, "1 start 7 final 0=2");
        Check.load(b, 0, "states 2;final 1 0;arc 0 0 a a 4;arc 0 0 a a 3;arc 0 1 d d 999;arc 1 0 c c 0;");
        Check.due("5 back to START", b.make(5, 0, 1), 2);
        Check.machine("5 back to START", b, 1, "2 start 0 final 1=0; 0>0 aa3; 0>1 dd999; 1>0 cc0");
        // The same states with another residue are another row, come to in the order of their letters.
        Check.load(b, 0, "states 3;final 2 0;final 1 9;arc 0 2 b b 1;arc 0 1 b b 1;arc 0 2 a a 1;arc 0 1 a a 2;"
                + "arc 0 1 c c 5;arc 0 2 c c 5;");
        Check.due("5 rows", b.make(5, 0, 1), 3);
        Check.machine("5 rows", b, 1, "3 start 0 final 1=0 2=0; 0>1 aa1; 0>2 bb1; 0>2 cc5");
        // Rows that are unlike in the first state alone, or in the last one alone.
        Check.load(b, 0, "states 3;final 0 9;final 1 0;arc 0 1 a a 0;arc 0 1 b b 0;arc 0 0 b b 0;arc 0 1 c c 0;"
                + "arc 0 2 c c 0;arc 0 1 d d 0;arc 0 2 d d 3;");
        Check.due("5 rows", b.make(5, 0, 1), 5);
        Check.machine("5 rows", b, 1, "5 start 0 final 0=9 1=0 2=0 3=0 4=0; 0>1 aa0; 0>2 bb0; 0>3 cc0; 0>4 dd0; "
                + "2>1 aa0; 2>2 bb0; 2>3 cc0; 2>4 dd0");
    }

    /** "(Without any PATH: TRIMMED.)" */
    private static void pushedWithoutPath() {
        CostBench b = new CostBench();
        Check.load(b, 0, "states 3;start 6;final 2 4;arc 0 1 b b 1;arc 1 0 a a 1;arc 0 0 a a 9;");
        Check.due("5 no path", b.make(6, 0, 1), 1);
        Check.machine("5 no path", b, 1, "1 start 6 final");
        b.make(0, 0, 2);
        Check.due("5 as trimmed", b.alike(1, 2) ? 1 : 0, 1);
        Check.load(b, 0, "states 2;start 6;final 0 4;arc 0 1 b b 1;");
        Check.due("5 the path without arcs", b.make(6, 0, 1), 1);
        Check.machine("5 the path without arcs", b, 1, "1 start 10 final 0=0");
        // What is AHEAD counts by the states that are left: here 1 and 3 go.
        Check.load(b, 0, "states 5;final 2 4;final 4 1;final 3 0;arc 0 1 a a 0;arc 0 2 a a 1;arc 2 4 b b 2;"
                + "arc 3 4 a a 0;");
        Check.due("5 pushed", b.make(6, 0, 1), 3);
        Check.machine("5 pushed", b, 1, "3 start 4 final 1=1 2=0; 0>1 aa0; 1>2 bb0");
    }

    /** "(the coarsest such); one for each, by their least STATES, in order" */
    private static void mergedToOne() {
        CostBench b = new CostBench();
        Check.load(b, 0, ring(12));
        Check.due("5 a ring is one state", b.make(7, 0, 1), 1);
        Check.machine("5 a ring is one state", b, 1, "1 start 0 final; 0>0 aa1");
        Check.load(b, 0, "states 12;start 3;");
        Check.due("5 bare states are one", b.make(7, 0, 1), 1);
        Check.machine("5 bare states are one", b, 1, "1 start 3 final");
        Check.load(b, 0, "states 3;final 0 0;final 2 0;");
        Check.due("5 a final cost of 0 is not none", b.make(7, 0, 1), 2);
        Check.machine("5 a final cost of 0 is not none", b, 1, "2 start 0 final 0=0");
        // A chain is told apart only from its end on: as many rounds as it has states.
        StringBuilder t = new StringBuilder("states 12;final 11 0;");
        for (int i = 0; i < 11; i++) {
            t.append("arc").append(i).append(' ').append(i + 1).append("a a0;");
        }
        Check.load(b, 0, t.toString());
        Check.due("5 a chain stays whole", b.make(7, 0, 1), 12);
        Check.due("24 as it was", b.alike(0, 1) ? 1 : 0, 1);
    }

    /** "(of several ones with the same in, out, cost, and to one, the first)" */
    private static void mergedFirstOfSeveral() {
        CostBench b = new CostBench();
        Check.load(b, 0, "states 4;final 2 1;final 3 1;arc 0 2 a a 1;arc 0 1 b b 2;arc 0 3 a a 1;arc 0 2 a a 1;"
                + "arc 0 3 a b 1;arc 0 3 a a 2;arc 0 3 b a 1;arc 1 3 a a 1;");
        Check.due("5 merged", b.make(7, 0, 1), 3);
        Check.machine("5 merged", b, 1, "3 start 0 final 2=1; 0>2 aa1; 0>1 bb2; 0>2 ab1; 0>2 aa2; 0>2 ba1; 1>2 aa1");
        // How often an arc is there does not tell states apart.
        Check.load(b, 0, "states 3;arc 0 2 a a 1;arc 1 2 a a 1;arc 1 2 a a 1;");
        Check.due("5 twice is alike once", b.make(7, 0, 1), 2);
        Check.machine("5 twice is alike once", b, 1, "2 start 0 final; 0>1 aa1");
    }

    /** "(p, q, f)": which SILENT moves may follow which */
    private static void behindOrders() {
        CostBench b = new CostBench();
        Check.load(b, 0, "states 3;final 2 0;arc 0 1 a - 1;arc 1 2 b - 1;arc 1 2 c d 1;");
        Check.load(b, 1, "states 2;final 1 0;arc 0 1 - a 10;arc 1 1 d c 10;");
        Check.due("6 behind", b.join(8, 0, 1, 2), 7);
        Check.machine("6 f 1", b, 2,
                "7 start 0 final 4=0 5=0; 0>1 aa11; 0>2 a-1; 0>3 -a10; 1>4 b-1; 1>5 cc11; 2>6 b-1");
        Check.load(b, 0, "states 2;final 0 2;arc 0 1 a - 1;arc 0 0 b c 1;");
        Check.load(b, 1, "states 3;final 2 3;arc 0 1 - a 10;arc 1 2 - b 10;arc 2 0 c c 10;");
        Check.due("6 behind", b.join(8, 0, 1, 2), 6);
        Check.machine("6 f 2", b, 2,
                "6 start 0 final 5=5; 0>1 aa11; 0>2 a-1; 0>3 -a10; 1>4 -b10; 3>5 -b10; 5>0 bc11");
        // (0, 1, 2) and (0, 2, 0) are two states, and so are (0, 0, 0) and (0, 0, 1).
        Check.load(b, 0, "states 1;final 0 0;arc 0 0 a c 1;");
        Check.load(b, 1, "states 3;final 1 5;final 2 6;arc 0 1 - a 10;arc 0 2 c c 20;");
        Check.due("6 behind", b.join(8, 0, 1, 2), 3);
        Check.machine("6 f 2 and f 0", b, 2, "3 start 0 final 1=6 2=5; 0>1 ac21; 0>2 -a10");
        Check.load(b, 0, "states 1;final 0 0;arc 0 0 a - 1;");
        Check.load(b, 1, "states 1;final 0 0;arc 0 0 - b 10;");
        Check.due("6 behind", b.join(8, 0, 1, 2), 3);
        Check.machine("6 f 0, 1 and 2", b, 2,
                "3 start 0 final 0=0 1=0 2=0; 0>0 ab11; 0>1 a-1; 0>2 -b10; 1>1 a-1; 2>2 -b10");
    }

    /** "(p, q, f), as they come": of forty states each, the last ones too */
    private static void behindForty() {
        CostBench b = new CostBench();
        Check.load(b, 0, ring(5));
        Check.load(b, 1, ring(8));
        b.join(8, 0, 1, 2);
        Check.load(b, 0, "states 1;final 0 0;arc 0 0 a a 0;");
        Check.due("6 forty and one", b.join(8, 2, 0, 3), 40);
        Check.due("24 as it was", b.alike(2, 3) ? 1 : 0, 1);
        Check.due("6 one and forty", b.join(8, 0, 2, 3), 40);
        Check.due("24 as it was", b.alike(2, 3) ? 1 : 0, 1);
        Check.due("6 forty and forty", b.join(8, 2, 2, 3), 40);
        Check.due("6 both costs", b.arc(3, 39, 4), 4);
    }

    /** "SLOT to has the MACHINE made": to may be a SLOT that it is made of */
    private static void ontoThemselves() {
        for (int what = 0; what <= 10; what++) {
            CostBench b = new CostBench();
            for (int s = 0; s < 2; s++) {
                Check.load(b, s, "states 4;start 2;final 3 1;final 0 4;arc 0 1 a a 1;arc 1 3 b b 2;arc 0 3 a a 5;"
                        + "arc 3 0 c c 1;");
            }
            int w = what;
            Check.Call apart = () -> w < 8 ? b.make(w, 0, 2) : b.join(w, 0, 0, 2);
            Check.Call onto = () -> w < 8 ? b.make(w, 0, 0) : b.join(w, 0, 0, 0);
            Check.due("5, 6 states of " + what, apart.run(), b.told(2, 0));
            Check.due("24 the given one stays " + what, b.alike(0, 1) ? 1 : 0, 1);
            Check.due("5, 6 states onto itself " + what, onto.run(), b.told(2, 0));
            Check.due("24 onto itself " + what, b.alike(0, 2) ? 1 : 0, 1);
        }
    }
}
