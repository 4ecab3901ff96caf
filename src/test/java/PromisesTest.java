/** Each promise of the document with answers worked out by hand: ordinary inputs, the edges it names, wrong inputs. */
public final class PromisesTest {
    private static final String TRIM_TEXT = "states 5;final 3 4;start 2;arc 0 1 a a 1;arc 1 3 b b 2;arc 0 2 a a 1;"
            + "arc 4 3 a a 1;arc 3 1 c - 5;arc 2 2 a a 0;";
    private static final String PARTED_TEXT = "states 4;arc 0 1 a a 0;arc 0 2 a a 0;arc 1 3 b b 1;arc 3 1 c c 1;"
            + "arc 2 2 b b 1;arc 2 2 c c 2;";
    private static final String COSTS_TEXT = "states 3;start 1;final 2 3;arc 0 1 a b 2;arc 0 2 a - 9;arc 1 2 - c 4;"
            + "arc 1 1 b b 0;arc 2 2 d - 1;";

    private PromisesTest() {
    }

    public static void main(String[] args) {
        readme();
        newObject();
        feed();
        text();
        textFaults();
        textEnds();
        fault();
        makeTrimmed();
        makeSided();
        makeTurned();
        makeFree();
        makeOneWay();
        makePushed();
        makeMerged();
        makeRefusals();
        joinBehind();
        joinEitherThen();
        joinRefusals();
        tooLargeStates();
        tooLargeArcs();
        tooLargeCosts();
        tooLargeFinals();
        fortyStates();
        undo();
        undoTape();
        told();
        arcAndLast();
        leastAndPath();
        pathOrder();
        word();
        couple();
        words();
        worst();
        paths();
        apart();
        twins();
        parting();
        partingOtherWay();
        ahead();
        merged();
        alike();
        print();
        status();
        Check.end();
    }

    /** The example of README.md. */
    private static void readme() {
        CostBench bench = new CostBench();
        bench.feed(0x73746174, 0x65732032, 0x3b66696e, 0x616c2031, 0x20303b61);
        Check.due("README feed", bench.feed(0x72632030, 0x20312061, 0x20612037, 0x3b000000, 0), 40);
        Check.due("README text", bench.text(0, 33), 1);
        Check.due("README least", bench.least(0), 7);
        Check.due("README make", bench.make(3, 0, 1), 3);
        Check.due("README undo", bench.undo(), 1);
        Check.noSuch("README a refusal", () -> bench.least(6));
        Check.due("README status", bench.status(0), 1);
    }

    private static void newObject() {
        Check.due("NONE", CostBench.NONE, -1);
        CostBench b = new CostBench();
        for (int s = 0; s < 6; s++) {
            Check.machine("1", b, s, "1 start 0 final");
            Check.due("1 told 8", b.told(s, 8), 0);
        }
        Check.due("1 fault", b.fault(), -1);
        Check.due("1 undo", b.undo(), -1);
        Check.due("1 tape", b.told(0, 9), 0);
        for (int i = 0; i < 3; i++) {
            Check.due("1 status", b.status(i), 0);
        }
    }

    private static void feed() {
        CostBench b = new CostBench();
        for (int i = 1; i <= 20; i++) {
            Check.due("2 feed", b.feed(0x61626364, 0, 0, 0, 0), 20 * i);
        }
        Check.due("2 full", b.feed(1, 2, 3, 4, 5), -1);
        Check.due("2 stays full", b.told(0, 9), 400);
        Check.due("2 refusals", b.status(0) + b.status(1) + b.status(2), 0);
        b.word(0, 0);
        Check.due("2 from the beginning", b.feed(0, 0, 0, 0, 0), 20);
        // The highest byte comes first: "abcd" and the byte 200 behind it.
        b.word(0, 0);
        b.feed(0x61626364, 0xc8000000, 0, 0, 0);
        Check.due("2 bytes", b.word(0, 5), -9);
        Check.due("2 place of byte 200", b.fault(), 4);
        // Every number has its place.
        b.feed(0x61616161, 0x61616161, 0x61616161, 0x61616161, 0x61616178);
        Check.due("2 last byte", b.word(0, 20), -9);
        Check.due("2 place of last byte", b.fault(), 19);
    }

    private static void text() {
        CostBench b = new CostBench();
        Check.due("3 text", Check.load(b, 2, "states 3;start 4;start 5;final 1 6;final 1 0;final 2 999;"
                + "arc 0 1 a d 7;arc 2 2 - c 0;arc 1 0 b - 999;"), 3);
        Check.machine("3", b, 2, "3 start 5 final 1=0 2=999; 0>1 ad7; 2>2 -c0; 1>0 b-999");
        Check.due("3 tape is empty", b.told(0, 9), 0);
        Check.due("3 nothing told but states", Check.load(b, 2, "states 12;"), 0);
        Check.machine("3 all new", b, 2, "12 start 0 final");
        Check.due("3 blanks", Check.load(b, 0, "  states  02 ;  arc   0   1  -  d   07  ;   "), 1);
        Check.machine("3 blanks", b, 0, "2 start 0 final; 0>1 -d7");
        Check.due("3 no blanks", Check.load(b, 0, "states2;final1 3;start9;arc0 1-a000000000000000004;"), 1);
        Check.machine("3 no blanks", b, 0, "2 start 9 final 1=3; 0>1 -a4");
        Check.put(b, "states 3;arc 1 1 a a 1;");
        Check.noSuch("3 slot 6", () -> b.text(6, 9));
        Check.noSuch("3 slot -1, n wrong too", () -> b.text(-1, 41));
        Check.badArgument("3 n -1", () -> b.text(0, -1));
        Check.badArgument("3 n 41", () -> b.text(0, 41));
        Check.due("3 tape stays", b.told(0, 9), 40);
        Check.due("3 first bytes alone", b.text(0, 9), 0);
        Check.machine("3 first bytes", b, 0, "3 start 0 final");
    }

    private static void faulty(String text, int answer, int place) {
        CostBench b = new CostBench();
        Check.load(b, 3, "states 2;arc 0 1 a a 5;");
        Check.due("3 \"" + text + "\"", Check.load(b, 3, text), answer);
        Check.due("4 \"" + text + "\"", b.fault(), place);
        Check.machine("3 stays", b, 3, "2 start 0 final; 0>1 aa5");
        Check.due("3 tape is empty all the same", b.told(3, 9), 0);
        Check.due("3 no act", b.told(3, 10), 1);
    }

    private static void textFaults() {
        faulty("", -9, 0);
        faulty("   ", -9, 3);
        faulty("state 2;", -9, 0);
        faulty("statess 2;", -9, 0);
        faulty(" States 2;", -9, 1);
        faulty("states;", -9, 6);
        faulty("states x;", -9, 7);
        faulty("states -1;", -9, 7);
        faulty("states 0;", -8, 7);
        faulty("states  13;", -8, 8);
        faulty("states 4294967297;", -8, 7);
        faulty("states 2 3;", -9, 9);
        faulty("states 2;;", -9, 9);
        faulty("states 2;\u0000", -9, 9);
        faulty("states 2;7;", -9, 9);
        faulty("states 2;states 2;", -9, 9);
        faulty("states 2; arcs 0 0 a a 0;", -9, 10);
        faulty("states 2;start 1000;", -8, 15);
        faulty("states 2;start a;", -9, 15);
        faulty("states 2;start 1,", -9, 16);
        faulty("states 2;final 2 0;", -8, 15);
        faulty("states 2;final 1 1000;", -8, 17);
        faulty("states 2;final 1;", -9, 16);
        faulty("states 2;arc 2 0 a a 0;", -8, 13);
        faulty("states 2;arc 0 2 a a 0;", -8, 15);
        faulty("states 2;arc 0 1 e a 0;", -9, 17);
        faulty("states 2;arc 0 1 a E 0;", -9, 19);
        faulty("states 2;arc 0 1 aa 0;", -9, 17);
        faulty("states 2;arc 0 1 a  ab 0;", -9, 20);
        faulty("states 2;arc 0 1 a a 1000;", -8, 21);
        faulty("states 2;arc 0 1 a a;", -9, 20);
        faulty("states 2;arc 0 1 a 3;", -9, 19);
        faulty("states 2;arc 0 1 --- 3;", -9, 19);
        // The first one from the left counts, whatever it is.
        faulty("states 2;arc 9 9 e e 1000;", -8, 13);
        faulty("states 2;arc 1 x e e 1000;", -9, 15);
    }

    /** Texts that end too early, byte by byte: the place is the length. */
    private static void textEnds() {
        String text = "states 2;arc 0 1 a a 5;";
        for (int n = 0; n < text.length(); n++) {
            boolean whole = n == 9;
            boolean inWord = n > 0 && n < 6 || n > 9 && n < 12;
            if (!whole && !inWord) {
                faulty(text.substring(0, n), -9, n);
            }
        }
        faulty("stat", -9, 0);
        faulty("states 2;ar", -9, 9);
        faulty("states 2;arc 0   ", -9, 17);
        StringBuilder arcs = new StringBuilder("states 2;");
        for (int i = 0; i < 30; i++) {
            arcs.append("arc0 1--0;");
        }
        CostBench b = new CostBench();
        Check.due("3 thirty arcs", Check.load(b, 0, arcs.toString()), 30);
        faulty(arcs + " arc0 1--0;", -7, 310);
        faulty(arcs + "arc", -7, 309);
        faulty(arcs + "start 1000;", -8, 315);
    }

    private static void fault() {
        CostBench b = new CostBench();
        Check.load(b, 0, "states 13;");
        Check.due("4", b.fault(), 7);
        Check.badArgument("4 refused", () -> b.text(0, 1));
        Check.noSuch("4 refused", () -> b.word(7, 0));
        Check.due("4 a refused call tells nothing", b.fault(), 7);
        Check.load(b, 0, "states 2;");
        Check.due("4 without", b.fault(), -1);
        Check.word(b, 0, "abcx");
        Check.due("4 word", b.fault(), 3);
        Check.couple(b, 0, "a:b");
        Check.due("4 couple without", b.fault(), -1);
        Check.couple(b, 0, "ab");
        Check.due("4 couple", b.fault(), 2);
        b.make(0, 0, 0);
        b.least(0);
        Check.due("4 other calls", b.fault(), 2);
        Check.word(b, 0, "");
        Check.due("4 word without", b.fault(), -1);
    }

    private static void makeTrimmed() {
        CostBench b = new CostBench();
        Check.load(b, 0, TRIM_TEXT);
        Check.due("5 trimmed", b.make(0, 0, 1), 3);
        Check.machine("5 trimmed", b, 1, "3 start 2 final 2=4; 0>1 aa1; 1>2 bb2; 2>1 c-5");
        Check.machine("5 the given one stays", b, 0,
                "5 start 2 final 3=4; 0>1 aa1; 1>3 bb2; 0>2 aa1; 4>3 aa1; 3>1 c-5; 2>2 aa0");
        Check.load(b, 0, "states 3;start 6;final 2 0;arc 0 0 a a 1;arc 0 1 b b 1;arc 2 0 a a 1;");
        Check.due("5 trimmed, no path", b.make(0, 0, 0), 1);
        Check.machine("5 trimmed, no path", b, 0, "1 start 6 final");
    }

    private static void makeSided() {
        CostBench b = new CostBench();
        Check.load(b, 0, TRIM_TEXT);
        Check.due("5 ins", b.make(1, 0, 1), 5);
        Check.machine("5 ins", b, 1,
                "5 start 2 final 3=4; 0>1 aa1; 1>3 bb2; 0>2 aa1; 4>3 aa1; 3>1 cc5; 2>2 aa0");
        Check.due("5 outs", b.make(2, 0, 1), 5);
        Check.machine("5 outs", b, 1,
                "5 start 2 final 3=4; 0>1 aa1; 1>3 bb2; 0>2 aa1; 4>3 aa1; 3>1 --5; 2>2 aa0");
    }

    private static void makeTurned() {
        CostBench b = new CostBench();
        Check.load(b, 0, TRIM_TEXT.replace("start 2", "start 2;final 0 8"));
        Check.due("5 turned", b.make(3, 0, 0), 6);
        Check.machine("5 turned", b, 0, "6 start 2 final 1=0; 0>1 --8; 0>4 --4; 2>1 aa1; 4>2 bb2; 3>1 aa1; "
                + "4>5 aa1; 2>4 c-5; 3>3 aa0");
    }

    private static void makeFree() {
        CostBench b = new CostBench();
        Check.load(b, 0, "states 3;final 2 7;final 1 1;start 3;arc 0 1 - - 2;arc 1 2 - - 3;arc 1 0 a a 4;"
                + "arc 2 2 b b 1;arc 2 1 a a 0;");
        Check.due("5 free", b.make(4, 0, 5), 3);
        Check.machine("5 free", b, 5, "3 start 3 final 0=3 1=1 2=7; 0>0 aa6; 0>1 aa5; 0>2 bb6; 1>0 aa4; 1>1 aa3; "
                + "1>2 bb4; 2>1 aa0; 2>2 bb1");
        // Of two ways the lesser one, round a silent ring too.
        Check.load(b, 0, "states 3;final 1 0;arc 0 1 - - 9;arc 0 2 - - 1;arc 2 1 - - 2;arc 1 0 - - 0;arc 1 1 d d 5;"
                + "arc 1 1 d d 4;");
        b.make(4, 0, 0);
        Check.machine("5 free, ring", b, 0, "3 start 0 final 0=3 1=0 2=2; 0>1 dd7; 1>1 dd4; 2>1 dd6");
    }

    private static void makeOneWay() {
        CostBench b = new CostBench();
        Check.load(b, 0, "states 3;start 9;final 1 1;final 2 5;arc 0 1 b b 2;arc 0 2 b b 4;arc 0 2 b b 3;"
                + "arc 0 0 a a 0;arc 1 1 a a 1;arc 2 2 a a 1;");
        Check.due("5 one-way", b.make(5, 0, 1), 2);
        Check.machine("5 one-way", b, 1, "2 start 9 final 1=1; 0>0 aa0; 0>1 bb2; 1>1 aa1");
        // The residue decides the final cost and tells rows apart.
        Check.load(b, 0, "states 3;final 1 9;final 2 1;arc 0 1 a a 1;arc 0 2 a a 4;arc 0 1 b b 1;arc 0 2 b b 5;"
                + "arc 2 0 c c 0;");
        Check.due("5 residues", b.make(5, 0, 1), 3);
        Check.machine("5 residues", b, 1, "3 start 0 final 1=4 2=5; 0>1 aa1; 0>2 bb1; 1>0 cc3; 2>0 cc4");
    }

    private static void makePushed() {
        CostBench b = new CostBench();
        Check.load(b, 0, "states 4;start 1;final 1 5;final 2 1;arc 0 1 a a 2;arc 0 2 b b 9;arc 1 2 - c 1;"
                + "arc 3 0 a a 1;");
        Check.due("5 pushed", b.make(6, 0, 0), 3);
        Check.machine("5 pushed", b, 0, "3 start 5 final 1=3 2=0; 0>1 aa0; 0>2 bb6; 1>2 -c0");
        Check.load(b, 0, "states 3;start 6;arc 0 1 b b 1;");
        Check.due("5 pushed, no path", b.make(6, 0, 0), 1);
        Check.machine("5 pushed, no path", b, 0, "1 start 6 final");
    }

    private static void makeMerged() {
        CostBench b = new CostBench();
        Check.load(b, 0, "states 5;start 4;final 3 1;final 4 1;arc 2 4 a a 1;arc 0 1 a b 2;arc 0 2 a b 2;"
                + "arc 1 3 a a 1;arc 1 4 a a 1;arc 0 3 c c 0;");
        Check.due("5 merged", b.make(7, 0, 0), 3);
        Check.machine("5 merged", b, 0, "3 start 4 final 2=1; 0>1 ab2; 1>2 aa1; 0>2 cc0");
        // Another in, out, cost, final cost, or an arc that the other lacks keeps states apart.
        Check.load(b, 0, "states 6;final 5 1;arc 0 5 a a 1;arc 1 5 b a 1;arc 2 5 a b 1;arc 3 5 a a 2;"
                + "arc 4 5 a a 1;arc 4 5 a a 2;");
        Check.due("5 none merged", b.make(7, 0, 0), 6);
    }

    private static void makeRefusals() {
        CostBench b = new CostBench();
        Check.noSuch("5 slot", () -> b.make(0, 6, 0));
        Check.noSuch("5 to", () -> b.make(0, 0, -1));
        Check.noSuch("5 to, what wrong too", () -> b.make(9, 0, 6));
        Check.badArgument("5 what 8", () -> b.make(8, 0, 0));
        Check.badArgument("5 what -1", () -> b.make(-1, 0, 0));
        Check.load(b, 0, "states 2;arc 0 1 a b 1;");
        Check.badState("5 free of no acceptor", () -> b.make(4, 0, 1));
        Check.badState("5 one-way of no acceptor", () -> b.make(5, 0, 1));
        Check.load(b, 0, "states 2;arc 0 1 - - 1;");
        Check.badState("5 one-way of a silent one", () -> b.make(5, 0, 1));
        Check.due("5 free of a silent one", b.make(4, 0, 1), 2);
        Check.due("5 status", b.status(0) * 100 + b.status(1) * 10 + b.status(2), 323);
    }

    private static void joinBehind() {
        CostBench b = new CostBench();
        Check.load(b, 0, "states 2;final 1 1;start 3;arc 0 1 a - 2;");
        Check.load(b, 1, "states 2;final 1 4;start 5;arc 0 1 - b 6;");
        Check.due("6 behind", b.join(8, 0, 1, 2), 4);
        Check.machine("6 behind", b, 2, "4 start 8 final 1=5; 0>1 ab8; 0>2 a-2; 0>3 -b6");
        // Letters are matched one by one, in the order of both machines' arcs.
        Check.load(b, 0, "states 3;final 2 0;arc 0 1 a b 1;arc 1 2 - c 2;arc 0 2 b c 4;");
        Check.load(b, 1, "states 2;final 1 0;final 0 7;arc 0 0 b - 10;arc 0 1 c d 20;arc 0 1 b a 30;");
        Check.due("6 letters", b.join(8, 0, 1, 0), 4);
        Check.machine("6 letters", b, 0, "4 start 0 final 3=0; 0>1 a-11; 0>2 aa31; 0>3 bd24; 1>3 -d22");
    }

    private static void joinEitherThen() {
        CostBench b = new CostBench();
        Check.load(b, 0, "states 2;start 3;final 1 1;final 0 4;arc 0 1 a - 2;");
        Check.load(b, 1, "states 2;start 5;final 1 6;arc 1 0 - b 7;");
        Check.due("6 either", b.join(9, 0, 1, 2), 5);
        Check.machine("6 either", b, 2, "5 start 0 final 1=4 2=1 4=6; 0>1 --3; 0>3 --5; 1>2 a-2; 4>3 -b7");
        Check.due("6 then", b.join(10, 0, 1, 2), 4);
        Check.machine("6 then", b, 2, "4 start 3 final 3=6; 0>1 a-2; 0>2 --9; 1>2 --6; 3>2 -b7");
        Check.due("6 onto itself", b.join(10, 0, 0, 0), 4);
        Check.machine("6 onto itself", b, 0, "4 start 3 final 2=4 3=1; 0>1 a-2; 0>2 --7; 1>2 --4; 2>3 a-2");
    }

    private static void joinRefusals() {
        CostBench b = new CostBench();
        Check.noSuch("6 first", () -> b.join(8, 6, 0, 0));
        Check.noSuch("6 second", () -> b.join(8, 0, -1, 0));
        Check.noSuch("6 to", () -> b.join(8, 0, 0, 6));
        Check.noSuch("6 to, what wrong too", () -> b.join(0, 0, 0, 6));
        Check.badArgument("6 what 7", () -> b.join(7, 0, 0, 0));
        Check.badArgument("6 what 11", () -> b.join(11, 0, 0, 0));
        Check.due("6 nothing done", b.told(0, 10), 0);
    }

    private static void tooLargeStates() {
        CostBench b = new CostBench();
        Check.load(b, 0, "states 12;");
        Check.load(b, 1, "states 4;");
        b.join(10, 0, 0, 2);
        b.join(10, 2, 0, 2);
        Check.due("6 forty states", b.join(10, 2, 1, 2), 40);
        int acts = b.told(0, 10);
        long before = b.print();
        Check.badState("6 then, 41 states", () -> b.join(10, 2, 3, 4));
        Check.badState("6 either, 42 states", () -> b.join(9, 2, 3, 4));
        Check.badState("5 turned, 41 states", () -> b.make(3, 2, 2));
        Check.due("5 nothing done", b.told(0, 10), acts);
        Check.due("5 nothing changed", b.print(), before);
        // A ring of 5 and a ring of 8 make 40 couples behind one another; one of 9 makes 45.
        Check.load(b, 0, ring(5));
        Check.load(b, 1, ring(8));
        Check.load(b, 3, ring(9));
        Check.due("6 behind, 40 states", b.join(8, 0, 1, 5), 40);
        Check.badState("6 behind, 45 states", () -> b.join(8, 0, 3, 5));
        // ONE-WAY without an end.
        Check.load(b, 0, "states 3;arc 0 1 a a 0;arc 0 2 a a 0;arc 1 1 b b 1;arc 2 2 b b 2;");
        Check.badState("5 one-way without end", () -> b.make(5, 0, 0));
    }

    private static String ring(int states) {
        StringBuilder t = new StringBuilder("states " + states + ";");
        for (int i = 0; i < states; i++) {
            t.append("arc ").append(i).append(' ').append((i + 1) % states).append(" a a 1;");
        }
        return t.toString();
    }

    private static void tooLargeArcs() {
        CostBench b = new CostBench();
        StringBuilder arcs = new StringBuilder("states 1;");
        for (int i = 0; i < 30; i++) {
            arcs.append("arc0 0--0;");
        }
        Check.load(b, 0, arcs.toString());
        Check.load(b, 1, "states 1;final 0 0;");
        b.join(10, 0, 0, 2);
        b.join(10, 2, 2, 3);
        Check.due("6 120 arcs", b.told(3, 1), 120);
        Check.badState("6 either, 122 arcs", () -> b.join(9, 3, 1, 4));
        Check.badState("6 then, 121 arcs", () -> b.join(10, 1, 3, 4));
        Check.due("6 then, 120 arcs", b.join(10, 3, 1, 4), 5);
        // Of 11 states without silent arcs, all to all by one letter: 121 ways.
        Check.load(b, 0, "states 11;" + silentStar(11));
        Check.badState("5 free, 121 arcs", () -> b.make(4, 0, 0));
        Check.load(b, 0, "states 10;" + silentStar(10));
        b.make(4, 0, 0);
        Check.due("5 free, 100 arcs", b.told(0, 1), 100);
    }

    /** Silent arcs from all states to the first, and from that by a letter to all. */
    private static String silentStar(int states) {
        StringBuilder t = new StringBuilder();
        for (int i = 0; i < states; i++) {
            t.append("arc0 ").append(i).append("a a0;");
            if (i > 0) {
                t.append("arc").append(i).append(" 0--0;");
            }
        }
        return t.toString();
    }

    /** Slot 0: a start or final cost of 625 becomes 15625 (10000, 5000 and 625), six times doubled a million. */
    private static void makeMillion(CostBench b, String text) {
        Check.load(b, 0, text);
        for (int i = 0; i < 3; i++) {
            b.join(8, 0, 0, 0);
        }
        b.join(8, 0, 0, 1);
        b.join(8, 0, 1, 0);
        Check.load(b, 1, text);
        b.join(8, 0, 1, 0);
        for (int i = 0; i < 6; i++) {
            b.join(8, 0, 0, 0);
        }
    }

    private static void tooLargeCosts() {
        CostBench b = new CostBench();
        makeMillion(b, "states 1;start 625;final 0 0;");
        Check.due("6 a million", b.told(0, 2), 1000000);
        Check.load(b, 1, "states 1;start 1;final 0 0;");
        Check.load(b, 2, "states 1;final 0 1;");
        Check.badState("6 start cost above", () -> b.join(8, 0, 1, 3));
        Check.due("6 then, an arc of a million", b.join(10, 1, 0, 3), 2);
        Check.due("6 its cost", b.arc(3, 0, 4), 1000000);
        Check.badState("6 then, an arc above", () -> b.join(10, 2, 0, 4));
        Check.due("6 pushed, a million", b.make(6, 0, 4), 1);
        Check.badState("5 pushed, start cost above", () -> b.make(6, 3, 4));
        Check.badState("6 behind, an arc above", () -> b.join(8, 3, 3, 4));
    }

    private static void tooLargeFinals() {
        CostBench b = new CostBench();
        makeMillion(b, "states 1;final 0 625;");
        Check.due("6 final cost of a million", b.last(0, 0), 1000000);
        Check.due("11 least", b.least(0), 1000000);
        Check.load(b, 1, "states 1;final 0 1;");
        Check.badState("6 final cost above", () -> b.join(8, 0, 1, 2));
        Check.load(b, 1, "states 1;start 1;final 0 0;");
        Check.badState("6 then, an arc above", () -> b.join(10, 0, 1, 2));
        Check.due("6 turned, an arc of a million", b.make(3, 0, 2), 2);
        // Of EITHER the start ends at a million or, by the other one, at 1: the lesser one counts.
        Check.due("6 either", b.join(9, 0, 1, 3), 3);
        Check.due("5 free", b.make(4, 3, 3), 3);
        Check.due("10 the lesser one", b.last(3, 0), 1);
        // Behind a silent arc of 1 the start would end at a million and 1.
        Check.load(b, 1, "states 2;final 1 0;arc 0 1 - - 1;");
        Check.due("6 then", b.join(10, 1, 0, 5), 3);
        Check.badState("5 free, final cost above", () -> b.make(4, 5, 5));
    }

    /** The most states there can be, the last one with arcs from it and to it. */
    private static void fortyStates() {
        CostBench b = new CostBench();
        Check.load(b, 0, ring(5) + "final 4 0;");
        Check.load(b, 1, ring(8) + "final 7 0;");
        Check.due("6 behind", b.join(8, 0, 1, 2), 40);
        Check.due("8 arcs", b.told(2, 1), 40);
        Check.due("8 of paths", b.told(2, 8), 40);
        Check.due("10 last", b.last(2, 39), 0);
        Check.due("11 least", b.least(2), 78);
        Check.due("12 arcs", b.path(2, -1), 39);
        Check.due("12 the last", b.path(2, 38), 38);
        Check.due("22 ahead", b.ahead(2, 0), 78);
        Check.due("19 twins", b.twins(2), 1);
        for (int what : new int[] {0, 1, 2, 4, 5, 7}) {
            Check.due("5 made " + what, b.make(what, 2, 3), 40);
            Check.due("24 alike " + what, b.alike(2, 3) ? 1 : 0, 1);
        }
        Check.due("23 merged", b.merged(2, 39), 39);
        Check.due("18 apart from nothing, behind eight letters", b.apart(2, 4, -1), -1);
        Check.load(b, 1, ring(8) + "arc 6 7 a a 5;");
        b.join(8, 0, 1, 2);
        int[] want = {0, 0, 0, 40, -4};
        for (int i = 0; i < 5; i++) {
            Check.due("20 forty " + i, b.parting(2, i), want[i]);
        }
        Check.due("21 forty", b.partingAt(2, 1, 39), 1);
        Check.due("21 forty", b.partingAt(2, 1, 40), -1);
    }

    private static void undo() {
        CostBench b = new CostBench();
        Check.load(b, 0, "states 2;");
        for (int i = 3; i <= 12; i++) {
            Check.load(b, 0, "states " + i + ";");
            Check.due("7 acts", b.told(0, 10), Math.min(10, i - 1));
        }
        Check.load(b, 0, "states 13;");
        Check.due("7 a fault is no act", b.told(0, 10), 10);
        for (int i = 9; i >= 0; i--) {
            Check.due("7 undo", b.undo(), i);
            Check.due("7 as ahead", b.told(0, 0), i + 2);
        }
        Check.due("7 no more", b.undo(), -1);
        Check.due("7 stays", b.told(0, 0), 2);
        b.word(0, 0);
        Check.load(b, 1, "states 3;final 2 5;start 8;arc 0 2 a - 4;");
        b.make(3, 1, 1);
        b.join(9, 1, 1, 0);
        Check.badState("7 refused", () -> b.make(4, 0, 1));
        Check.due("7 join back", b.undo(), 2);
        Check.machine("7 join back", b, 0, "2 start 0 final");
        Check.due("7 make back", b.undo(), 1);
        Check.machine("7 make back", b, 1, "3 start 8 final 2=5; 0>2 a-4");
        Check.due("7 path is known anew", b.path(1, 0), 0);
        Check.due("7 text back", b.undo(), 0);
        Check.machine("7 text back", b, 1, "1 start 0 final");
        Check.due("7 refusals stay", b.status(2), 1);
    }

    /** "All is as ahead of": the tape too. */
    private static void undoTape() {
        CostBench b = new CostBench();
        Check.load(b, 0, "states 3;final 0 2;arc 0 0 a a 1;");
        Check.due("7 empty behind text", b.told(0, 9), 0);
        Check.put(b, "ab");
        b.make(0, 0, 1);
        Check.put(b, "cd");
        Check.due("7 fed", b.told(0, 9), 40);
        b.undo();
        Check.due("7 as ahead of make", b.told(0, 9), 20);
        Check.due("7 its bytes", b.word(0, 3), -9);
        Check.due("7 its bytes", b.fault(), 2);
        b.undo();
        Check.due("7 as ahead of text", b.told(0, 9), 40);
        Check.due("7 its bytes", b.text(1, 33), 1);
    }

    private static void told() {
        CostBench b = new CostBench();
        Check.load(b, 0, TRIM_TEXT);
        int[] want = {5, 6, 2, 0, 0, 0, 1, 0, 3, 0, 1};
        for (int i = 0; i <= 10; i++) {
            Check.due("8 told " + i, b.told(0, i), want[i]);
        }
        Check.badArgument("8 what 11", () -> b.told(0, 11));
        Check.badArgument("8 what -1", () -> b.told(0, -1));
        Check.noSuch("8 slot, what wrong too", () -> b.told(6, 11));
        Check.load(b, 0, "states 2;arc 0 1 - - 0;arc 0 1 a a 0;arc 0 1 - a 0;arc 1 1 a - 0;");
        Check.due("8 no acceptor", b.told(0, 3), 0);
        Check.due("8 silent in and out", b.told(0, 7), 1);
        Check.due("8 silent in", b.told(0, 5), 0);
        Check.load(b, 0, "states 2;arc 0 1 - - 0;arc 0 1 a a 0;");
        Check.due("8 acceptor", b.told(0, 3), 1);
        Check.due("8 not plain", b.told(0, 4), 0);
        Check.load(b, 0, "states 2;arc 0 1 b b 0;arc 0 1 a a 0;arc 1 1 a a 0;");
        Check.due("8 plain", b.told(0, 4), 1);
        Check.due("8 one by one", b.told(0, 5), 1);
        Check.load(b, 0, "states 2;arc 0 1 a b 0;arc 1 1 a a 0;arc 0 0 a - 0;");
        Check.due("8 two with the same in", b.told(0, 5), 0);
        Check.load(b, 0, "states 2;arc 0 1 a b 0;arc 1 1 a - 0;arc 0 0 b - 0;");
        Check.due("8 outs may be anything", b.told(0, 5), 1);
        Check.load(b, 0, "states 3;final 0 0;final 1 5;");
        Check.due("8 finals", b.told(0, 6), 2);
        Check.due("8 start alone", b.told(0, 8), 1);
        b.feed(0, 0, 0, 0, 0);
        Check.due("8 tape", b.told(5, 9), 20);
    }

    private static void arcAndLast() {
        CostBench b = new CostBench();
        Check.load(b, 4, "states 3;final 1 0;final 2 77;arc 0 1 a b 2;arc 2 1 - d 999;");
        int[] want = {2, 1, 0, 4, 999};
        for (int i = 0; i < 5; i++) {
            Check.due("9 arc " + i, b.arc(4, 1, i), want[i]);
        }
        Check.noSuch("9 arc 2", () -> b.arc(4, 2, 0));
        Check.noSuch("9 arc -1", () -> b.arc(4, -1, 0));
        Check.noSuch("9 arc 2, what wrong too", () -> b.arc(4, 2, 9));
        Check.noSuch("9 slot", () -> b.arc(-3, 0, 0));
        Check.badArgument("9 what 5", () -> b.arc(4, 0, 5));
        Check.badArgument("9 what -1", () -> b.arc(4, 0, -1));
        Check.due("10 none", b.last(4, 0), -1);
        Check.due("10 nothing", b.last(4, 1), 0);
        Check.due("10 cost", b.last(4, 2), 77);
        Check.noSuch("10 state 3", () -> b.last(4, 3));
        Check.noSuch("10 state -1", () -> b.last(4, -1));
        Check.noSuch("10 slot", () -> b.last(9, 0));
    }

    private static void leastAndPath() {
        CostBench b = new CostBench();
        Check.load(b, 0, COSTS_TEXT);
        // By 1: 1 + 2 + 4 + 3 = 10; at once: 1 + 9 + 3 = 13.
        Check.due("11 least", b.least(0), 10);
        Check.due("12 arcs", b.path(0, -1), 2);
        Check.due("12 first", b.path(0, 0), 0);
        Check.due("12 second", b.path(0, 1), 2);
        Check.due("12 no third", b.path(0, 2), -1);
        Check.due("12 below NONE", b.path(0, -2), -1);
        Check.due("12 far", b.path(0, Integer.MAX_VALUE), -1);
        Check.noSuch("11 slot", () -> b.least(6));
        Check.noSuch("12 slot", () -> b.path(-1, 0));
        Check.load(b, 0, "states 2;start 5;final 0 6;arc 0 0 a a 0;");
        Check.due("11 no arcs", b.least(0), 11);
        Check.due("12 no arcs", b.path(0, -1), 0);
        Check.due("12 no arcs, first", b.path(0, 0), -1);
        Check.load(b, 0, "states 2;final 1 6;arc 1 0 a a 0;");
        Check.due("11 none", b.least(0), -1);
        Check.due("12 none", b.path(0, -1), -1);
    }

    private static void pathOrder() {
        CostBench b = new CostBench();
        // All cost 4: three arcs, two by arcs 5 and 2, two by arcs 4 and 3, two by arcs 4 and 1.
        Check.load(b, 0, "states 5;final 4 0;arc 0 1 a a 1;arc 3 4 a a 3;arc 2 4 a a 2;arc 3 4 b b 3;arc 0 3 a a 1;"
                + "arc 0 2 a a 2;arc 1 2 a a 1;");
        Check.due("12 fewest", b.path(0, -1), 2);
        Check.due("12 first by numbers", b.path(0, 0), 4);
        Check.due("12 second by numbers", b.path(0, 1), 1);
        // A ring that costs nothing does not lengthen the path.
        Check.load(b, 0, "states 3;final 2 0;arc 0 0 a a 0;arc 0 1 a a 0;arc 1 0 a a 0;arc 0 2 b b 0;arc 1 2 a a 0;");
        Check.due("12 no ring", b.path(0, -1), 1);
        Check.due("12 straight", b.path(0, 0), 3);
    }

    private static void word() {
        CostBench b = new CostBench();
        Check.load(b, 0, COSTS_TEXT);
        Check.due("13 a", Check.word(b, 0, "a"), 10);
        Check.due("13 ab", Check.word(b, 0, "abbb"), 10);
        Check.due("13 ad", Check.word(b, 0, "add"), 12);
        Check.due("13 none", Check.word(b, 0, "b"), -1);
        Check.due("13 empty, none", Check.word(b, 0, ""), -1);
        Check.load(b, 1, "states 2;start 2;final 0 3;arc 0 0 - a 1;");
        Check.due("13 empty", Check.word(b, 1, ""), 5);
        Check.due("13 twenty", Check.word(b, 0, "abbbbbbbbbbbbbbbbbbb"), 10);
        Check.due("13 21", Check.word(b, 0, "abbbbbbbbbbbbbbbbbbbb"), -9);
        Check.due("13 21 place", b.fault(), 20);
        Check.due("13 tape is empty", b.told(0, 9), 0);
        Check.due("13 another byte", Check.word(b, 0, "aeb"), -9);
        Check.due("13 place", b.fault(), 1);
        Check.due("13 blank", Check.word(b, 0, " a"), -9);
        Check.due("13 place", b.fault(), 0);
        Check.put(b, "abd");
        Check.noSuch("13 slot, n wrong too", () -> b.word(6, 21));
        Check.badArgument("13 n 21", () -> b.word(0, 21));
        Check.badArgument("13 n -1", () -> b.word(0, -1));
        Check.due("13 tape stays", b.told(0, 9), 20);
        Check.due("13 first byte alone", b.word(0, 1), 10);
    }

    private static void couple() {
        CostBench b = new CostBench();
        Check.load(b, 0, COSTS_TEXT);
        Check.due("14 a:bc", Check.couple(b, 0, "a:bc"), 10);
        Check.due("14 a:", Check.couple(b, 0, "a:"), 13);
        Check.due("14 abb:bbbc", Check.couple(b, 0, "abb:bbbc"), 10);
        Check.due("14 ad:", Check.couple(b, 0, "ad:"), 14);
        Check.due("14 none", Check.couple(b, 0, "a:b"), -1);
        Check.load(b, 1, "states 2;start 2;final 1 0;arc 0 0 - a 1;arc 0 1 a - 3;arc 1 0 - - 0;");
        Check.due("14 :", Check.couple(b, 1, ":"), -1);
        Check.due("14 aa:aaa", Check.couple(b, 1, "aa:aaa"), 11);
        String twenty = "aaaaaaaaaaaaaaaaaaaa";
        Check.due("14 twenty each", Check.couple(b, 1, twenty + ":" + twenty), 82);
        Check.due("14 21 in", Check.couple(b, 1, twenty + "a:a"), -9);
        Check.due("14 21 in, place", b.fault(), 20);
        Check.due("14 21 out", Check.couple(b, 1, "a:" + twenty + "a"), -9);
        Check.due("14 21 out, place", b.fault(), 22);
        Check.due("14 no colon", Check.couple(b, 1, "aa"), -9);
        Check.due("14 no colon, place", b.fault(), 2);
        Check.due("14 two colons", Check.couple(b, 1, "aa::"), -9);
        Check.due("14 two colons, place", b.fault(), 3);
        Check.due("14 another byte", Check.couple(b, 1, "a:b-"), -9);
        Check.due("14 another byte, place", b.fault(), 3);
        Check.due("14 tape is empty", b.told(0, 9), 0);
        Check.put(b, "a:");
        Check.noSuch("14 slot", () -> b.couple(-1, 99));
        Check.badArgument("14 n", () -> b.couple(0, 21));
        Check.due("14 tape stays", b.told(0, 9), 20);
    }

    private static void words() {
        CostBench b = new CostBench();
        Check.load(b, 0, COSTS_TEXT);
        // a, then b's, then d's.
        int[] want = {0, 1, 2, 3, 4, 5, 6, 7, 8};
        for (int i = 0; i <= 8; i++) {
            Check.due("15 words " + i, b.words(0, i), want[i]);
        }
        Check.load(b, 1, "states 1;final 0 5;arc 0 0 a a 1;arc 0 0 a b 2;arc 0 0 b b 0;arc 0 0 c - 0;arc 0 0 d d 0;"
                + "arc 0 0 - d 0;");
        Check.due("15 all", b.words(1, 8), 65536);
        Check.due("15 the empty one", b.words(1, 0), 1);
        Check.noSuch("15 slot, letters wrong too", () -> b.words(6, 9));
        Check.badArgument("15 letters 9", () -> b.words(0, 9));
        Check.badArgument("15 letters -1", () -> b.words(0, -1));
    }

    private static void worst() {
        CostBench b = new CostBench();
        Check.load(b, 0, COSTS_TEXT);
        // With three letters: abb 10, abd 11, add 12.
        Check.due("16 least", b.worst(0, 3, 0), 10);
        Check.due("16 greatest", b.worst(0, 3, 1), 12);
        Check.due("16 none", b.worst(0, 0, 0), -1);
        Check.due("16 none", b.worst(0, 0, 1), -1);
        Check.load(b, 1, "states 2;start 4;final 0 1;final 1 0;arc 0 0 a a 7;arc 0 0 b b 2;arc 0 1 a a 3;arc 1 1 b b 9;"
                + "arc 1 1 a a 1;");
        // Two letters: aa 8, ab 13 (7 + 2 + 1 = 10 with 4: 14; 3 + 9 with 4: 16), ba, bb.
        Check.due("16 aa", Check.word(b, 1, "aa"), 8);
        Check.due("16 ab", Check.word(b, 1, "ab"), 14);
        Check.due("16 ba", Check.word(b, 1, "ba"), 9);
        Check.due("16 bb", Check.word(b, 1, "bb"), 9);
        Check.due("16 least of two", b.worst(1, 2, 0), 8);
        Check.due("16 greatest of two", b.worst(1, 2, 1), 14);
        Check.due("16 the empty one", b.worst(1, 0, 1), 5);
        Check.noSuch("16 slot", () -> b.worst(6, 9, 2));
        Check.badArgument("16 letters", () -> b.worst(0, 9, 0));
        Check.badArgument("16 letters", () -> b.worst(0, -1, 0));
        Check.badArgument("16 what", () -> b.worst(0, 0, 2));
        Check.badArgument("16 what", () -> b.worst(0, 0, -1));
        Check.due("16 refusals", b.status(1), 4);
    }

    private static void paths() {
        CostBench b = new CostBench();
        StringBuilder arcs = new StringBuilder("states 1;final 0 0;");
        for (int i = 0; i < 30; i++) {
            arcs.append("arc0 0--0;");
        }
        Check.load(b, 0, arcs.toString());
        Check.due("17 none at all", b.paths(0, 0), 1);
        Check.due("17 one", b.paths(0, 1), 30);
        Check.due("17 eight", b.paths(0, 8), 656100000000L);
        Check.due("17 nine", b.paths(0, 9), 1000000000000L);
        Check.due("17 thirty", b.paths(0, 30), 1000000000000L);
        Check.load(b, 1, "states 3;final 1 0;final 2 9;arc 0 1 a a 1;arc 1 0 a a 1;arc 1 2 - - 1;");
        Check.due("17 to both", b.paths(1, 3), 1);
        Check.due("17 to both", b.paths(1, 4), 1);
        Check.due("17 none", b.paths(1, 0), 0);
        Check.noSuch("17 slot", () -> b.paths(6, 31));
        Check.badArgument("17 arcs", () -> b.paths(0, 31));
        Check.badArgument("17 arcs", () -> b.paths(0, -1));
    }

    private static void apart() {
        CostBench b = new CostBench();
        Check.load(b, 0, "states 2;final 0 1;final 1 1;arc 0 0 a a 1;arc 0 1 b b 2;arc 1 1 c c 1;");
        Check.load(b, 1, "states 2;start 1;final 0 0;final 1 0;arc 0 0 a a 1;arc 0 1 b b 2;arc 1 1 c c 1;"
                + "arc 1 1 a a 0;");
        Check.due("18 letters", b.apart(0, 1, -1), 2);
        Check.due("18 first", b.apart(0, 1, 0), 2);
        Check.due("18 second", b.apart(0, 1, 1), 1);
        Check.due("18 no third", b.apart(0, 1, 2), -1);
        Check.due("18 below", b.apart(0, 1, -2), -1);
        Check.due("18 the other way", b.apart(1, 0, -1), 2);
        Check.due("18 itself", b.apart(0, 0, -1), -1);
        b.make(0, 0, 1);
        Check.due("18 asked anew", b.apart(0, 1, -1), -1);
        b.undo();
        Check.due("18 asked anew again", b.apart(0, 1, 0), 2);
        Check.load(b, 2, "states 2;final 0 2;final 1 1;arc 0 0 a a 1;");
        Check.due("18 the empty word", b.apart(0, 2, -1), 0);
        Check.due("18 it has no first", b.apart(0, 2, 0), -1);
        // Alike up to eight letters: apart only by the ninth.
        Check.load(b, 3, chain(9));
        Check.load(b, 4, chain(8));
        Check.due("18 nine letters", b.apart(3, 5, -1), -1);
        Check.due("18 eight letters", b.apart(4, 5, -1), 8);
        Check.due("18 the last", b.apart(4, 5, 7), 1);
        Check.noSuch("18 first slot", () -> b.apart(6, 0, 0));
        Check.noSuch("18 second slot", () -> b.apart(0, -1, 0));
    }

    private static String chain(int letters) {
        StringBuilder t = new StringBuilder("states " + (letters + 1) + ";final " + letters + " 0;");
        for (int i = 0; i < letters; i++) {
            t.append("arc ").append(i).append(' ').append(i + 1).append(" a a 1;");
        }
        return t.toString();
    }

    private static void twins() {
        CostBench b = new CostBench();
        Check.load(b, 0, PARTED_TEXT);
        Check.due("19 not", b.twins(0), 0);
        Check.load(b, 0, PARTED_TEXT.replace("c c 2", "c c 1"));
        Check.due("19 are", b.twins(0), 1);
        // Alike round the whole ring, though not arc by arc.
        Check.load(b, 0, PARTED_TEXT.replace("2 2 b b 1", "2 2 b b 0"));
        Check.due("19 round the ring", b.twins(0), 1);
        // Not come to with the same letters.
        Check.load(b, 0, PARTED_TEXT.replace("0 2 a a", "0 2 b b"));
        Check.due("19 no couple", b.twins(0), 1);
        // That no path ends does not matter, nor does the order of p and q.
        Check.noSuch("19 slot", () -> b.twins(6));
        Check.load(b, 0, "states 1;arc 0 0 - - 0;");
        Check.badState("19 silent", () -> b.twins(0));
        Check.load(b, 0, "states 1;arc 0 0 a b 0;");
        Check.badState("19 no acceptor", () -> b.twins(0));
    }

    private static void parting() {
        CostBench b = new CostBench();
        Check.load(b, 0, PARTED_TEXT);
        int[] want = {1, 2, 1, 2, -1};
        for (int i = 0; i < 5; i++) {
            Check.due("20 parting " + i, b.parting(0, i), want[i]);
        }
        Check.due("21 U", b.partingAt(0, 0, 0), 1);
        Check.due("21 U ends", b.partingAt(0, 0, 1), -1);
        Check.due("21 U below", b.partingAt(0, 0, -1), -1);
        Check.due("21 V", b.partingAt(0, 1, 0), 2);
        Check.due("21 V", b.partingAt(0, 1, 1), 3);
        Check.due("21 V ends", b.partingAt(0, 1, 2), -1);
        Check.badArgument("20 what 5", () -> b.parting(0, 5));
        Check.badArgument("20 what -1", () -> b.parting(0, -1));
        Check.badArgument("21 which 2", () -> b.partingAt(0, 2, 0));
        Check.noSuch("20 slot", () -> b.parting(6, 5));
        Check.noSuch("21 slot", () -> b.partingAt(6, 2, 0));
        b.make(1, 1, 0);
        Check.due("20 twins", b.parting(0, 0), -1);
        Check.due("21 twins", b.partingAt(0, 1, 0), -1);
        b.undo();
        Check.due("20 back again", b.parting(0, 3), 2);
        Check.load(b, 0, "states 1;arc 0 0 - - 0;");
        Check.badState("20 silent", () -> b.parting(0, 0));
        Check.badState("21 silent", () -> b.partingAt(0, 0, 0));
        Check.badArgument("20 what, silent too", () -> b.parting(0, 5));
        Check.badArgument("21 which, silent too", () -> b.partingAt(0, -1, 0));
        // At START itself U is empty.
        Check.load(b, 0, "states 1;arc 0 0 a a 3;arc 0 0 a a 5;");
        Check.due("20 U is empty", b.parting(0, 2), 0);
        Check.due("20 p", b.parting(0, 0), 0);
        // The first of the four couples of arcs that pay unlike: 3 and 5.
        Check.due("20 pays", b.parting(0, 4), -2);
    }

    private static void partingOtherWay() {
        CostBench b = new CostBench();
        // From (1, 2) by a to (3, 2), paying 1, by b too, paying 0; back by c, paying 0: so b, c shows nothing.
        Check.load(b, 0, "states 4;arc 0 1 d d 0;arc 0 2 d d 0;arc 1 3 a a 1;arc 1 3 b b 0;arc 3 1 c c 0;"
                + "arc 2 2 a a 0;arc 2 2 b b 0;arc 2 2 c c 0;");
        int[] want = {1, 2, 1, 2, 1};
        for (int i = 0; i < 5; i++) {
            Check.due("20 other way " + i, b.parting(0, i), want[i]);
        }
        Check.due("21 U", b.partingAt(0, 0, 0), 4);
        Check.due("21 V", b.partingAt(0, 1, 0), 1);
        Check.due("21 V", b.partingAt(0, 1, 1), 3);
    }

    private static void ahead() {
        CostBench b = new CostBench();
        Check.load(b, 0, "states 5;start 100;final 2 3;final 1 9;arc 0 1 a b 2;arc 1 2 - c 4;arc 4 0 a a 1;");
        int[] want = {9, 7, 3, -1, 10};
        for (int s = 0; s < 5; s++) {
            Check.due("22 ahead " + s, b.ahead(0, s), want[s]);
        }
        Check.noSuch("22 state", () -> b.ahead(0, 5));
        Check.noSuch("22 state", () -> b.ahead(0, -1));
        Check.noSuch("22 slot", () -> b.ahead(6, 0));
    }

    private static void merged() {
        CostBench b = new CostBench();
        Check.load(b, 0, "states 6;final 3 1;final 5 1;arc 4 5 a a 1;arc 2 3 a a 1;arc 1 3 a a 1;arc 1 5 a a 1;"
                + "arc 0 1 b b 1;");
        int[] want = {0, 1, 1, 2, 1, 2};
        for (int s = 0; s < 6; s++) {
            Check.due("23 merged " + s, b.merged(0, s), want[s]);
        }
        // Two rings of unlike lengths are alike all over: the coarsest.
        Check.load(b, 0, "states 5;arc 0 1 a a 1;arc 1 0 a a 1;arc 2 3 a a 1;arc 3 4 a a 1;arc 4 2 a a 1;");
        Check.due("23 rings", b.merged(0, 4), 0);
        Check.noSuch("23 state", () -> b.merged(0, 5));
        Check.noSuch("23 slot", () -> b.merged(6, 0));
    }

    private static void alike() {
        CostBench b = new CostBench();
        String text = "states 2;start 1;final 1 2;arc 0 1 a b 3;arc 1 1 c d 4;";
        String[] others = {text.replace("states 2", "states 3"), text.replace("start 1", "start 2"),
            text.replace("final 1 2", "final 1 3"), text.replace("final 1", "final 0"), text.replace("0 1 a", "0 0 a"),
            text.replace("0 1 a", "1 1 a"), text.replace("a b", "c b"), text.replace("a b", "a c"),
            text.replace("b 3", "b 4"), text.replace("arc 1 1 c d 4;", ""),
            "states 2;start 1;final 1 2;arc 1 1 c d 4;arc 0 1 a b 3;", text.replace("final 1 2;", "")};
        Check.load(b, 0, text);
        Check.load(b, 1, text);
        Check.due("24 alike", b.alike(0, 1) ? 1 : 0, 1);
        for (String other : others) {
            Check.load(b, 1, other);
            Check.due("24 " + other, b.alike(0, 1) ? 1 : 0, 0);
        }
        Check.noSuch("24 first", () -> b.alike(6, 0) ? 1 : 0);
        Check.noSuch("24 second", () -> b.alike(0, -1) ? 1 : 0);
    }

    private static void print() {
        CostBench b = new CostBench();
        Check.load(b, 5, "states 3;start 7;final 2 900;arc 0 1 a a 5;arc 1 2 b b 6;");
        long sum = 0;
        for (int i = 0; i < 5; i++) {
            sum = (sum * 31 + 1) * 31;
        }
        sum = (((sum * 31 + 3) * 31 + 7) * 31 + 5) * 31 + 6;
        Check.due("25 print", b.print(), sum);
        b.feed(0, 0, 0, 0, 0);
        Check.due("25 the tape does not count", b.print(), sum);
    }

    private static void status() {
        CostBench b = new CostBench();
        Check.noSuch("26", () -> b.least(6));
        Check.noSuch("26", () -> b.ahead(0, 1));
        Check.noSuch("26", () -> b.arc(0, 0, 0));
        Check.badArgument("26", () -> b.told(0, 11));
        Check.badArgument("26", () -> b.word(0, 1));
        Check.load(b, 0, "states 1;arc 0 0 - a 0;");
        Check.badState("26", () -> b.twins(0));
        Check.due("26 no such", b.status(0), 3);
        Check.due("26 argument", b.status(1), 2);
        Check.due("26 state", b.status(2), 1);
        Check.due("26 others", b.status(3), -1);
        Check.due("26 others", b.status(-1), -1);
        Check.due("26 counts nothing itself", b.status(1), 2);
    }
}
