/** The edges of texts, words and the TAPE: each method stands for a sentence of the document, which it tells. */
public final class TextEdgesTest {
    private static final String TWENTY = "abcdabcdabcdabcdabcd";

    private TextEdgesTest() {
    }

    public static void main(String[] args) {
        tapeFull();
        tapeBytes();
        slotsOfTexts();
        textOfFourHundredBytes();
        statesOneToTwelve();
        costsToNineHundredNinetyNine();
        statesOfLines();
        numbersOfAnyLength();
        signsAlone();
        wordsAsTheyStand();
        blanks();
        otherBytes();
        lastOneCounts();
        endsTooEarly();
        lengthIsThatAskedFor();
        thirtyFirstArc();
        firstFromTheLeft();
        nothingButTheTape();
        bytesAsked();
        placeOfTheLatest();
        placeIsKept();
        wordLength();
        wordBytes();
        emptyWord();
        coupleLengths();
        coupleSigns();
        emptyCouples();
        tapeIsEmptyThen();
        Check.end();
    }

    private static void fine(String text, String machine) {
        CostBench b = new CostBench();
        int arcs = Check.load(b, 1, text);
        Check.machine("\"" + text + "\"", b, 1, machine);
        Check.due("3 arcs of \"" + text + "\"", arcs, b.told(1, 1));
        Check.due("4 \"" + text + "\"", b.fault(), -1);
        Check.due("3 tape behind \"" + text + "\"", b.told(1, 9), 0);
        Check.due("7 an act is \"" + text + "\"", b.told(1, 10), 1);
    }

    private static void faulty(String text, int kind, int place) {
        faulty(text, text.length(), kind, place);
    }

    private static void faulty(String text, int n, int kind, int place) {
        CostBench b = new CostBench();
        Check.load(b, 1, "states 3;start 4;final 2 6;arc 0 2 a - 5;");
        String before = Check.told(b, 1);
        Check.put(b, text);
        Check.due("3 \"" + text + "\"", b.text(1, n), kind - 10);
        Check.due("4 \"" + text + "\"", b.fault(), place);
        Check.machine("3 stays behind \"" + text + "\"", b, 1, before);
        Check.due("3 tape behind \"" + text + "\"", b.told(1, 9), 0);
        Check.due("7 no act is \"" + text + "\"", b.told(1, 10), 1);
        Check.due("26 no refusal is \"" + text + "\"", b.status(0) + b.status(1) + b.status(2), 0);
    }

    private static String zeros(int count) {
        return "0".repeat(count);
    }

    private static String arcs(int count) {
        return "arc0 0--0;".repeat(count);
    }

    /** "how many there are; NONE, doing nothing, if there would be more than 400" */
    private static void tapeFull() {
        CostBench b = new CostBench();
        for (int i = 1; i <= 19; i++) {
            Check.due("2 feed " + i, b.feed(0x61616161, 0x61616161, 0x61616161, 0x61616161, 0x61616161), 20 * i);
        }
        Check.due("2 the 400th byte", b.feed(0x61616161, 0x61616161, 0x61616161, 0x61616161, 0x61616178), 400);
        String before = Check.all(b);
        Check.due("2 a 401st", b.feed(0, 0, 0, 0, 0), -1);
        Check.due("2 once more", b.feed(-1, -1, -1, -1, -1), -1);
        Check.same("2 doing nothing", Check.all(b), before);
        Check.due("2 the first bytes stay", b.couple(0, 20), -9);
        Check.due("2 letters all of them", b.fault(), 20);
        Check.due("2 room again", b.feed(0, 0, 0, 0, 0), 20);
    }

    /** "Twenty bytes come on the TAPE, of each number the highest first", those from 128 on too. */
    private static void tapeBytes() {
        for (int at = 0; at < 20; at++) {
            CostBench b = new CostBench();
            int[] numbers = {0x61626364, 0x61626364, 0x61626364, 0x61626364, 0x61626364};
            numbers[at / 4] |= 0xff << (24 - 8 * (at % 4));
            b.feed(numbers[0], numbers[1], numbers[2], numbers[3], numbers[4]);
            Check.due("2 byte 255 at " + at, b.word(0, 20), -9);
            Check.due("2 place " + at, b.fault(), at);
        }
        CostBench b = new CostBench();
        Check.load(b, 0, "states 5;final 4 0;arc 0 1 a a 0;arc 1 2 b b 0;arc 2 3 c c 0;arc 3 4 d d 0;");
        b.feed(0x61626364, 0, 0, 0, 0);
        Check.due("2 in their order", b.word(0, 4), 0);
    }

    /** "SLOTS 0 to 5" */
    private static void slotsOfTexts() {
        CostBench b = new CostBench();
        for (int s = 0; s <= 5; s++) {
            Check.load(b, s, "states " + (s + 2) + ";");
        }
        for (int s = 0; s <= 5; s++) {
            Check.due("3 slot " + s, b.told(s, 0), s + 2);
        }
        Check.put(b, "states 3;");
        for (int s : new int[] {-1, 6, Integer.MIN_VALUE, Integer.MAX_VALUE}) {
            String before = Check.all(b);
            Check.noSuch("3 slot " + s, () -> b.text(s, 9));
            Check.noSuch("3 ahead of others " + s, () -> b.text(s, -1));
            Check.same("3 refused " + s, Check.all(b), before);
        }
        Check.due("3 the tape is still there", b.text(0, 9), 0);
    }

    /** "A TEXT (400 bytes at most)" */
    private static void textOfFourHundredBytes() {
        fine("states 2;" + " ".repeat(391), "2 start 0 final");
        fine("states 2;" + " ".repeat(382) + "start 77;", "2 start 77 final");
        fine("states 1;" + arcs(30) + "start" + zeros(82) + "33 ;", "1 start 33 final" + "; 0>0 --0".repeat(30));
        faulty("states 2;" + " ".repeat(390) + "x", 1, 399);
        faulty("states 2;" + " ".repeat(382) + "start 77 ", 1, 400);
        faulty("states 2;" + " ".repeat(384) + "start 7", 1, 400);
        faulty(" ".repeat(400), 1, 400);
    }

    /** "N 1 to 12" */
    private static void statesOneToTwelve() {
        for (int n = 1; n <= 12; n++) {
            fine("states " + n + ";", n + " start 0 final");
        }
        faulty("states 0;", 2, 7);
        faulty("states 00;", 2, 7);
        faulty("states 13;", 2, 7);
        faulty("states 20;", 2, 7);
        faulty("states 100;", 2, 7);
        fine("states 012;", "12 start 0 final");
    }

    /** "C 0 to 999" */
    private static void costsToNineHundredNinetyNine() {
        fine("states 1;start 0;", "1 start 0 final");
        fine("states 1;start 999;", "1 start 999 final");
        faulty("states 1;start 1000;", 2, 15);
        fine("states 1;final 0 0;", "1 start 0 final 0=0");
        fine("states 1;final 0 999;", "1 start 0 final 0=999");
        faulty("states 1;final 0 1000;", 2, 17);
        fine("states 1;arc 0 0 a a 0;", "1 start 0 final; 0>0 aa0");
        fine("states 1;arc 0 0 a a 999;", "1 start 0 final; 0>0 aa999");
        faulty("states 1;arc 0 0 a a 1000;", 2, 21);
        faulty("states 1;start -1;", 1, 15);
    }

    /** "Q, R STATES" */
    private static void statesOfLines() {
        fine("states 1;final 0 1;", "1 start 0 final 0=1");
        faulty("states 1;final 1 1;", 2, 15);
        fine("states 12;final 11 1;", "12 start 0 final 11=1");
        faulty("states 12;final 12 1;", 2, 16);
        fine("states 12;arc 11 11 a a 1;", "12 start 0 final; 11>11 aa1");
        faulty("states 12;arc 12 11 a a 1;", 2, 14);
        faulty("states 12;arc 11 12 a a 1;", 2, 17);
        faulty("states 3;arc 3 0 a a 1;", 2, 13);
        faulty("states 3;arc 0 3 a a 1;", 2, 15);
    }

    /** "numbers: digits, as many as stand there": none of them wraps round. */
    private static void numbersOfAnyLength() {
        fine("states " + zeros(391) + "7;", "7 start 0 final");
        fine("states 2;start " + zeros(381) + "999;", "2 start 999 final");
        faulty("states " + zeros(389) + "13;", 2, 7);
        faulty("states 256;", 2, 7);
        faulty("states 65537;", 2, 7);
        faulty("states 4294967297;", 2, 7);
        faulty("states 18446744073709551617;", 2, 7);
        faulty("states 2;start 4294967296;", 2, 15);
        faulty("states 2;start 18446744073709551616;", 2, 15);
        faulty("states 2;final 4294967296 0;", 2, 15);
        faulty("states 2;final 0 4294967296;", 2, 17);
        faulty("states 2;start 1" + zeros(380) + ";", 2, 15);
        faulty("states 2;start " + "9".repeat(380) + ";", 2, 15);
        // Two numbers need a blank between them: these are one.
        faulty("states 2;final 01;", 1, 17);
        faulty("states 2;arc 01 a a 1;", 1, 16);
    }

    /** "X, Y: "-" or a LETTER alone" */
    private static void signsAlone() {
        fine("states 1;arc 0 0 - - 1;arc 0 0 a b 1;arc 0 0 c d 1;", "1 start 0 final; 0>0 --1; 0>0 ab1; 0>0 cd1");
        fine("states 1;arc0 0-a1;arc0 0d-1;arc0 0a b1;", "1 start 0 final; 0>0 -a1; 0>0 d-1; 0>0 ab1");
        faulty("states 1;arc 0 0 e a 1;", 1, 17);
        faulty("states 1;arc 0 0 a e 1;", 1, 19);
        faulty("states 1;arc 0 0 ` a 1;", 1, 17);
        faulty("states 1;arc 0 0 A a 1;", 1, 17);
        faulty("states 1;arc 0 0 ab 1;", 1, 17);
        faulty("states 1;arc 0 0 a bb 1;", 1, 19);
        faulty("states 1;arc 0 0 -ab 1;", 1, 18);
        faulty("states 1;arc 0 0 --- 1;", 1, 19);
        faulty("states 1;arc 0 0 0 a 1;", 1, 17);
        faulty("states 1;arc 0 0 ; a 1;", 1, 17);
        faulty("states 1;arc 0 0 a ; 1;", 1, 19);
    }

    /** "Words: small letters, as many as stand there" */
    private static void wordsAsTheyStand() {
        fine("states2;start3;final1 4;arc1 0-a5;", "2 start 3 final 1=4; 1>0 -a5");
        faulty("statess 2;", 1, 0);
        faulty("state 2;", 1, 0);
        faulty("States 2;", 1, 0);
        faulty("STATES 2;", 1, 0);
        faulty("states 2;starts 3;", 1, 9);
        faulty("states 2;star 3;", 1, 9);
        faulty("states 2;finals 0 3;", 1, 9);
        faulty("states 2;fina 0 3;", 1, 9);
        faulty("states 2;arcs 0 0 a a 3;", 1, 9);
        // The first and the last of the small letters belong to a word, what stands beside them does not.
        faulty("statesa 2;", 1, 0);
        faulty("statesz 2;", 1, 0);
        faulty("states` 2;", 1, 6);
        faulty("states{ 2;", 1, 6);
        // Each sign of a word counts.
        faulty("xtates 2;", 1, 0);
        faulty("statex 2;", 1, 0);
        faulty("states 2;xtart 3;", 1, 9);
        faulty("states 2;xinal 0 3;", 1, 9);
        faulty("states 2;xrc 0 0 a a 3;", 1, 9);
        faulty("states 2;axc 0 0 a a 3;", 1, 9);
        faulty("states 2;arx 0 0 a a 3;", 1, 9);
        faulty("states 2;ar 0 0 a a 3;", 1, 9);
        faulty("states 2;states 2;", 1, 9);
        faulty("states 2;starta 3;", 1, 9);
        faulty("states 2;Start 3;", 1, 9);
        faulty("states 2;{ start 3;", 1, 9);
        faulty("start 2;", 1, 0);
        faulty("arc 0 0 a a 0;", 1, 0);
    }

    /** "blanks (32) may stand ahead of all these and of ";", and at the end" */
    private static void blanks() {
        fine("   states   2   ;   start   3   ;   final   1   4   ;   arc   0   1   -   a   5   ;   ",
                "2 start 3 final 1=4; 0>1 -a5");
        fine("states 2;", "2 start 0 final");
        fine("states 2;   ", "2 start 0 final");
        faulty("sta tes 2;", 1, 0);
        faulty("states 2;st art 3;", 1, 9);
        faulty("states 1 2;", 1, 9);
        faulty("states 2;start 1 2;", 1, 17);
        faulty("states 2;final 1 1 2;", 1, 19);
        faulty("   stats 2;", 1, 3);
        faulty("states    13;", 2, 10);
        faulty("states 2;   final   2   0;", 2, 20);
        faulty("states 2;   x", 1, 12);
    }

    /** "what can't stand there": every other byte wherever something stands, nothing but 32 being a blank. */
    private static void otherBytes() {
        for (int c : new int[] {0, 9, 10, 13, 31, 33, 47, 58, 64, 91, 95, 96, 123, 127, 128, 160, 176, 255}) {
            String sign = String.valueOf((char) c);
            faulty(sign + "states 2;", 1, 0);
            faulty("states" + sign + "2;", 1, 6);
            faulty("states 2" + sign + ";", 1, 8);
            faulty("states 2;" + sign, 1, 9);
            faulty("states 2;start" + sign + "3;", 1, 14);
            faulty("states 2;final 1" + sign + "3;", 1, 16);
            faulty("states 2;arc 0 1" + sign + "a a 3;", 1, 16);
            faulty("states 2;arc 0 1 a" + sign + "a 3;", 1, 18);
            faulty("states 2;arc 0 1 a a" + sign + "3;", 1, 20);
            faulty("states 2;arc 0 1 a a 3" + sign + ";", 1, 22);
        }
        faulty(";", 1, 0);
        faulty("states;", 1, 6);
        faulty("states 2;;", 1, 9);
        faulty("states 2;start 1;;", 1, 17);
        faulty("states 2;final 1;", 1, 16);
        faulty("states 2;arc 0;", 1, 14);
        faulty("states 2;arc 0 1 a a;", 1, 20);
    }

    /** "START COST; the last one counts", and of a FINAL cost */
    private static void lastOneCounts() {
        fine("states 1;start 5;start 0;", "1 start 0 final");
        fine("states 1;start 5;start 3;start 9;", "1 start 9 final");
        fine("states 2;final 1 5;final 0 2;final 1 0;", "2 start 0 final 0=2 1=0");
        fine("states 2;final 1 5;final 1 3;final 1 9;", "2 start 0 final 1=9");
        fine("states 2;arc 0 1 a a 5;arc 0 1 a a 3;", "2 start 0 final; 0>1 aa5; 0>1 aa3");
    }

    /** "(at the length, if the text ends too early)" */
    private static void endsTooEarly() {
        faulty("", 1, 0);
        faulty(" ", 1, 1);
        faulty("states", 1, 6);
        faulty("states ", 1, 7);
        faulty("states 2", 1, 8);
        faulty("states 2  ", 1, 10);
        faulty("states 2;start", 1, 14);
        faulty("states 2;start ", 1, 15);
        faulty("states 2;start 5", 1, 16);
        faulty("states 2;final", 1, 14);
        faulty("states 2;final 1", 1, 16);
        faulty("states 2;final 1 3", 1, 18);
        faulty("states 2;arc", 1, 12);
        faulty("states 2;arc 0", 1, 14);
        faulty("states 2;arc 0 1", 1, 16);
        faulty("states 2;arc 0 1 -", 1, 18);
        faulty("states 2;arc 0 1 - a", 1, 20);
        faulty("states 2;arc 0 1 - a 3", 1, 22);
        faulty("states 2;arc 0 1 - a 3   ", 1, 25);
        // A word or number that stands there whole, though cut off, is looked at as it stands.
        faulty("stat", 1, 0);
        faulty("states 2;sta", 1, 9);
        faulty("states 2;start 1000", 2, 15);
    }

    /** "The first n bytes of the TAPE": what stands behind them does not count. */
    private static void lengthIsThatAskedFor() {
        faulty("states 2;start 5;", 0, 1, 0);
        faulty("states 2;start 5;", 3, 1, 0);
        faulty("states 2;start 5;", 6, 1, 6);
        faulty("states 2;start 5;", 8, 1, 8);
        faulty("states 2;start 5;", 14, 1, 14);
        faulty("states 2;start 5;", 16, 1, 16);
        faulty("states 1;arc 0 0 a a 1;", 20, 1, 20);
        faulty("states 1;arc 0 0 - - 1;", 17, 1, 17);
        faulty("states 1;arc 0 0 - - 1;", 19, 1, 19);
        faulty("states 1;arc 0 0 - - 1;", 21, 1, 21);
        faulty("states 1;" + " ".repeat(383) + "arc 0 0 ", 1, 400);
        faulty("states 1;" + " ".repeat(384) + "arc 0 0", 1, 400);
        CostBench b = new CostBench();
        Check.put(b, "states 12;start 55;xyz");
        Check.due("3 the first 10", b.text(0, 10), 0);
        Check.machine("3 the first 10", b, 0, "12 start 0 final");
        Check.put(b, "states 12;start 55;xyz");
        Check.due("3 the first 19", b.text(0, 19), 0);
        Check.machine("3 the first 19", b, 0, "12 start 55 final");
        Check.due("3 the rest is gone", b.told(0, 9), 0);
    }

    /** "3 a 31st "arc" (at its word)" */
    private static void thirtyFirstArc() {
        fine("states 1;" + arcs(30), "1 start 0 final" + "; 0>0 --0".repeat(30));
        fine("states 1;" + arcs(30) + "start 4;final 0 5;", "1 start 4 final 0=5" + "; 0>0 --0".repeat(30));
        faulty("states 1;" + arcs(31), 3, 309);
        faulty("states 1;" + arcs(30) + "   arc", 3, 312);
        faulty("states 1;" + arcs(30) + "arc 9 9 x x;", 3, 309);
        faulty("states 1;" + arcs(30) + "start 1;arc0 0--0;", 3, 317);
        faulty("states 1;" + arcs(30) + "arcs", 1, 309);
        faulty("states 1;" + arcs(30) + "ar", 1, 309);
        faulty("states 1;" + arcs(30) + "x", 1, 309);
    }

    /** "FAULTS, the first from the left, at its first byte" */
    private static void firstFromTheLeft() {
        faulty("states 13 x", 2, 7);
        faulty("states 13x;", 2, 7);
        faulty("states x;start 1000;", 1, 7);
        faulty("states 2;start 1000x", 2, 15);
        faulty("states 2;final 2 1000;", 2, 15);
        faulty("states 2;final 1 1000;y", 2, 17);
        faulty("states 2;arc 2 2 e e 1000", 2, 13);
        faulty("states 2;arc 1 2 e e 1000", 2, 15);
        faulty("states 2;arc 1 1 e e 1000", 1, 17);
        faulty("states 2;arc 1 1 d e 1000", 1, 19);
        faulty("states 2;arc 1 1 d d 1000", 2, 21);
        faulty("states 1;" + arcs(29) + "arc0 0--1000;arc", 2, 307);
        faulty("states 1;" + arcs(29) + "arc0 0--0 arc", 1, 309);
    }

    /** "or the FAULT less 10 (all but the TAPE stays)" */
    private static void nothingButTheTape() {
        CostBench b = new CostBench();
        Check.load(b, 0, "states 3;start 1;final 2 2;arc 0 2 a b 3;");
        Check.load(b, 4, "states 2;start 9;arc 0 1 - b 3;");
        String machines = Check.machines(b);
        String[] texts = {"", "states 0;", "states 2;start 5;final 1 6;arc 0 1 a a 1;x", "states 1;" + arcs(31)};
        for (String text : texts) {
            Check.load(b, 4, text);
            Check.same("3 all stays behind \"" + text + "\"", Check.machines(b), machines);
            Check.due("3 acts", b.told(0, 10), 2);
        }
        b.undo();
        Check.machine("3 the latest act is still the one ahead", b, 4, "1 start 0 final");
    }

    /** "IllegalArgumentException: n is not 0 to the TAPE's bytes (it stays; so below)" */
    private static void bytesAsked() {
        CostBench b = new CostBench();
        Check.load(b, 0, "states 1;final 0 3;arc 0 0 a b 2;");
        for (int bytes = 0; bytes <= 400; bytes += 20) {
            for (int n : new int[] {-1, bytes + 1, 401, Integer.MIN_VALUE, Integer.MAX_VALUE}) {
                String before = Check.all(b);
                Check.badArgument("3 text " + n + " of " + bytes, () -> b.text(0, n));
                Check.badArgument("13 word " + n + " of " + bytes, () -> b.word(0, n));
                Check.badArgument("14 couple " + n + " of " + bytes, () -> b.couple(0, n));
                Check.same("3 it stays", Check.all(b), before);
            }
            b.feed(0x613a6200, 0, 0, 0, 0);
        }
        Check.due("14 the bytes are there still", b.couple(0, 3), 5);
        b.feed(0x20202020, 0x20202020, 0x20202020, 0x20202020, 0x20202020);
        Check.due("3 all of them", b.text(0, 20), -9);
        Check.due("3 looked at to the end", b.fault(), 20);
        Check.due("3 none of them", b.text(0, 0), -9);
        Check.due("3 none of them", b.fault(), 0);
        Check.due("13 none of them", b.word(0, 0), 3);
        Check.due("14 none of them", b.couple(0, 0), -9);
    }

    /** "The place of the FAULT of the latest text(), word(), couple(); NONE without." */
    private static void placeOfTheLatest() {
        CostBench b = new CostBench();
        Check.due("4 at first", b.fault(), -1);
        String[] good = {"states 2;", "ab", "a:b"};
        String[] bad = {"states 13;", "abx", "a:bc:"};
        int[] place = {7, 2, 4};
        for (int i = 0; i < 3; i++) {
            for (int j = 0; j < 3; j++) {
                read(b, i, bad[i]);
                Check.due("4 place " + i, b.fault(), place[i]);
                read(b, j, good[j]);
                Check.due("4 without " + j, b.fault(), -1);
                read(b, i, bad[i]);
                read(b, j, bad[j]);
                Check.due("4 the latest of " + i + " and " + j, b.fault(), place[j]);
            }
        }
    }

    private static void read(CostBench b, int how, String text) {
        Check.put(b, text);
        switch (how) {
            case 0: b.text(0, text.length()); break;
            case 1: b.word(0, text.length()); break;
            default: b.couple(0, text.length()); break;
        }
    }

    /** The same sentence: what is no text(), word(), couple(), or is refused, leaves the place alone. */
    private static void placeIsKept() {
        CostBench b = new CostBench();
        Check.load(b, 0, "states 2;final 1 0;arc 0 1 a a 1;");
        Check.word(b, 0, "abcx");
        Check.noSuch("4 refused", () -> b.text(6, 0));
        Check.badArgument("4 refused", () -> b.word(0, 1));
        Check.badArgument("4 refused", () -> b.couple(0, -1));
        b.make(3, 0, 1);
        b.join(9, 0, 1, 2);
        b.feed(0x61000000, 0, 0, 0, 0);
        b.twins(0);
        b.least(0);
        b.undo();
        Check.due("4 kept", b.fault(), 3);
        Check.due("4 asked twice", b.fault(), 3);
    }

    private static String loops(String signs) {
        StringBuilder t = new StringBuilder("states 1;final 0 0;");
        for (String pair : signs.split(" ")) {
            t.append("arc 0 0 ").append(pair.charAt(0)).append(' ').append(pair.charAt(1)).append(" 1;");
        }
        return t.toString();
    }

    /** "LETTERS alone, at most 20 ... -9 (fault() tells where): another byte, a 21st one" */
    private static void wordLength() {
        CostBench b = new CostBench();
        Check.load(b, 0, loops("aa bb cc dd"));
        Check.due("13 nineteen", Check.word(b, 0, TWENTY.substring(1)), 19);
        Check.due("13 twenty", Check.word(b, 0, TWENTY), 20);
        Check.due("13 no fault", b.fault(), -1);
        Check.due("13 a 21st", Check.word(b, 0, TWENTY + "a"), -9);
        Check.due("13 its place", b.fault(), 20);
        Check.due("13 a 21st, another byte", Check.word(b, 0, TWENTY + "x"), -9);
        Check.due("13 its place", b.fault(), 20);
        Check.due("13 400 of them", Check.word(b, 0, TWENTY.repeat(20)), -9);
        Check.due("13 the first of those too many", b.fault(), 20);
        Check.due("13 another byte ahead of them", Check.word(b, 0, "abcdx" + TWENTY), -9);
        Check.due("13 its place", b.fault(), 4);
        Check.put(b, TWENTY + TWENTY);
        Check.due("13 twenty of forty", b.word(0, 20), 20);
        Check.due("26 none of these is refused", b.status(0) + b.status(1) + b.status(2), 0);
    }

    /** The same sentence: each byte that is no LETTER. */
    private static void wordBytes() {
        CostBench b = new CostBench();
        Check.load(b, 0, loops("aa bb cc dd"));
        for (int c = 0; c < 256; c++) {
            boolean letter = c >= 'a' && c <= 'd';
            Check.due("13 byte " + c, Check.word(b, 0, "a" + (char) c), letter ? 2 : -9);
            Check.due("13 place of byte " + c, b.fault(), letter ? -1 : 1);
        }
    }

    /** "none at all, if START has one": the WORD without LETTERS */
    private static void emptyWord() {
        CostBench b = new CostBench();
        Check.due("13 of a new one", b.word(0, 0), -1);
        Check.due("13 that is no fault", b.fault(), -1);
        Check.load(b, 0, "states 2;start 3;final 0 4;arc 0 1 - a 0;final 1 9;");
        Check.due("13 of START", b.word(0, 0), 7);
        Check.load(b, 0, "states 2;start 3;final 0 4;arc 0 1 - a 0;final 1 2;");
        Check.due("13 of a silent arc", b.word(0, 0), 5);
        Check.load(b, 0, "states 2;start 3;arc 0 1 a - 0;final 1 2;");
        Check.due("13 none", b.word(0, 0), -1);
    }

    /** "Likewise of two WORDS": each has 20 LETTERS at most. */
    private static void coupleLengths() {
        CostBench b = new CostBench();
        Check.load(b, 0, loops("a- b- c- d- -a -b -c -d"));
        Check.due("14 twenty each", Check.couple(b, 0, TWENTY + ":" + TWENTY), 40);
        Check.due("14 no fault", b.fault(), -1);
        Check.due("14 twenty and none", Check.couple(b, 0, TWENTY + ":"), 20);
        Check.due("14 none and twenty", Check.couple(b, 0, ":" + TWENTY), 20);
        Check.due("14 a 21st of the first", Check.couple(b, 0, TWENTY + "a:a"), -9);
        Check.due("14 its place", b.fault(), 20);
        Check.due("14 a 21st of the first, no sign", Check.couple(b, 0, TWENTY + "a"), -9);
        Check.due("14 its place", b.fault(), 20);
        Check.due("14 a 21st of the second", Check.couple(b, 0, TWENTY + ":" + TWENTY + "a"), -9);
        Check.due("14 its place", b.fault(), 41);
        Check.due("14 a 21st of a second behind none", Check.couple(b, 0, ":" + TWENTY + "d"), -9);
        Check.due("14 its place", b.fault(), 21);
        Check.due("14 twenty and no sign", Check.couple(b, 0, TWENTY), -9);
        Check.due("14 its place", b.fault(), 20);
    }

    /** "with ":" between" */
    private static void coupleSigns() {
        CostBench b = new CostBench();
        Check.load(b, 0, loops("aa bb"));
        String[] wrong = {"", "a", "ab", "::", "a::", "a:b:", "a;b", "a b", " a:b", "a :b", "a: b", "a:b ", "A:a",
            "a:e"};
        int[] place = {0, 1, 2, 1, 2, 3, 1, 1, 0, 1, 2, 3, 0, 2};
        for (int i = 0; i < wrong.length; i++) {
            Check.due("14 \"" + wrong[i] + "\"", Check.couple(b, 0, wrong[i]), -9);
            Check.due("14 place of \"" + wrong[i] + "\"", b.fault(), place[i]);
            Check.due("14 tape behind \"" + wrong[i] + "\"", b.told(0, 9), 0);
        }
        for (int c = 0; c < 256; c++) {
            boolean letter = c >= 'a' && c <= 'd';
            Check.due("14 byte " + c, Check.couple(b, 0, ":" + (char) c) == -9 ? 1 : 0, letter ? 0 : 1);
            Check.due("14 place of byte " + c, b.fault(), letter ? -1 : 1);
        }
        // The sign behind the bytes asked for does not count.
        Check.put(b, "ab:ab");
        Check.due("14 two of five", b.couple(0, 2), -9);
        Check.due("14 place", b.fault(), 2);
        Check.put(b, "ab:ab");
        Check.due("14 three of five", b.couple(0, 3), -1);
        Check.put(b, "ab:ab");
        Check.due("14 five of twenty", b.couple(0, 5), 2);
    }

    /** Two WORDS without LETTERS, or one of them */
    private static void emptyCouples() {
        CostBench b = new CostBench();
        Check.due("14 of a new one", Check.couple(b, 0, ":"), -1);
        Check.due("14 that is no fault", b.fault(), -1);
        Check.load(b, 0, "states 3;start 3;final 0 4;final 1 0;arc 0 1 - a 1;arc 0 1 a - 2;arc 0 2 - - 0;final 2 3;");
        Check.due("14 :", Check.couple(b, 0, ":"), 6);
        Check.due("14 :a", Check.couple(b, 0, ":a"), 4);
        Check.due("14 a:", Check.couple(b, 0, "a:"), 5);
        Check.due("14 a:a", Check.couple(b, 0, "a:a"), -1);
    }

    /** "(its first n bytes, empty then ...)": whatever the answer, all of the TAPE */
    private static void tapeIsEmptyThen() {
        CostBench b = new CostBench();
        String[] tapes = {"abab", "xbab", "a:ab", "xxxx", "states 1;", "states 0;"};
        for (int how = 0; how < 3; how++) {
            for (String t : tapes) {
                for (int n : new int[] {0, 2, t.length(), 20}) {
                    Check.put(b, t);
                    readFirst(b, how, n);
                    Check.due("3, 13, 14 empty then", b.told(0, 9), 0);
                }
            }
        }
    }

    private static void readFirst(CostBench b, int how, int n) {
        switch (how) {
            case 0: b.text(0, n); break;
            case 1: b.word(0, n); break;
            default: b.couple(0, n); break;
        }
    }
}
