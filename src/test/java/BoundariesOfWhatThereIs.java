/** Each sentence on CELLS, KINDS, VALUES, READS, HEIGHTS and what tells them, promises 6 to 13, at its boundaries. */
public final class BoundariesOfWhatThereIs {
    private static final int BAD = Checks.BAD, NONE = Checks.NONE;
    private static final int MIN = Integer.MIN_VALUE, MAX = Integer.MAX_VALUE, ALL = (1 << 30) - 1;
    private static final String ANSWERS = "Answers:", CELLS = "CELLS 0 to 29", KINDS = "KINDS:", READS = "READS of a CELL",
            HEIGHT = "HEIGHT of a CELL", NEEDS = "NEEDS of a CELL", LIFE = "An object is used";
    private static final Checks checks = new Checks(LIFE, ANSWERS, CELLS, KINDS, READS, HEIGHT, NEEDS, "Promise 6", "Promise 7",
            "Promise 8", "Promise 9", "Promise 10", "Promise 11", "Promise 12", "Promise 13");
    private static final String[] NO_CELLS = {"-1", "30", "31", "-30", "MIN", "MAX"};

    /** The ends of int, made of small numbers. */
    private static final String ENDS = "num 0 256;mul 1 0 0;num 2 128;mul 3 0 2;mul 4 1 3;num 5 1;sub 6 4 5;add 7 6 5;mul 8 1 1;";
    private static final int AT_MIN = 4, AT_ONE = 5, AT_MAX = 6;

    public static void main(String[] args) {
        life();
        answers();
        cells();
        values();
        kinds();
        picks();
        spans();
        whens();
        reads();
        waits();
        heights();
        needs();
        rule();
        ruleAtItsEnds();
        cell();
        value();
        readsOf();
        readerOf();
        far();
        order();
        circle();
        checks.end();
    }

    private static void life() {
        checks.says(LIFE, "An object is used for at most 512 calls after it has been made; what later calls answer is free.");
        Run x = new Run();
        for (int i = 0; i < 255; i++) {
            checks.due(x, "put " + i % 30 + " 1 " + i + " 0 0", 1);
            checks.due(x, "value " + i % 30, i);
        }
        checks.due(x, "rule 7", 20);
        checks.due(x, "undo", 1);
        if (x.calls() != 512) throw new IllegalStateException("that were " + x.calls() + " calls");
        x = new Run(States.FULL_TAPE);
        for (int i = 0; i < 190; i++) checks.due(x, "storm " + i + " 21", BAD);
        checks.due(x, "text", 40);
        checks.due(x, "value 9", 3);
    }

    private static void answers() {
        checks.says(ANSWERS, "BAD -1 (a number is not as told, there is no such CELL, IMAGE, SHEET)");
        Run x = new Run();
        for (String call : new String[] {"feed 128", "cell 30 0", "keep 2", "lay 4 0 0", "order -1"}) checks.due(x, call, HeightSheet.BAD);
        checks.due(x, "feed -1", -1);
        checks.says(ANSWERS, "STATE -2 (as told)");
        checks.due(x, "undo", -2);
        checks.due(x, "back 0", HeightSheet.STATE);
        checks.says(ANSWERS, "FULL -3");
        checks.due(new Run(States.FULL_TAPE), "feed 32", -3);
        checks.due(new Run(States.FULL_TAPE), "feed 32", HeightSheet.FULL);
        checks.says(ANSWERS, "NONE -4 (there is none)");
        checks.due(x, "latest 0", -4);
        checks.due(x, "count 2", HeightSheet.NONE);
        checks.says(ANSWERS, "Answers:");
        checks.says(ANSWERS, "the first that fits;");
        checks.due(new Run(States.FULL_TAPE), "feed 128", BAD);
        for (String call : new String[] {"back 2", "latest 3", "reads 30 99", "reader -1 99", "circle 30 99", "sheet 0 3 -1",
            "sheet 4 0 -1", "lay 4 -1 0", "read 0 3 -1 1", "read 4 0 0 1", "read 0 0 0 9"}) {
            checks.due(x, call, BAD);
        }
        checks.says(ANSWERS, "what is refused changes nothing (but THE TAPE, as told).");
        String[] refused = {"feed 128", "end -1", "rule 8", "cell 30 0", "cell 0 9", "reads 0 -1", "reader 0 -1", "far 0 2", "order -1",
            "circle 0 -1", "put 0 9 0 0 0", "would 0 9 0 0 0 0", "latest 3", "storm 1 0", "keep 2", "back 2", "sheet 0 0 41",
            "lay 4 0 0", "read 0 0 0 9", "count 5"};
        for (String[] state : States.ALL) {
            for (String call : refused) checks.unchanged(state, call, BAD);
        }
        checks.due(new Run(States.RICH), "count 1", 18);
        x = new Run(States.RICH);
        checks.due(x, "feed 33", 19);
        checks.due(x, "text", -28);
        checks.due(x, "count 1", 0);
    }

    private static void cells() {
        checks.says(CELLS, "CELLS 0 to 29, each with a FORMULA:");
        Run x = new Run();
        for (int c = 0; c < 30; c++) checks.due(x, "put " + c + " 1 " + (c + 1) + " 0 0", 1);
        for (int c = 0; c < 30; c++) checks.due(x, "value " + c, c + 1);
        checks.due(x, "rule 0", 30);
        for (String c : NO_CELLS) checks.due(x, "put " + c + " 1 5 0 0", BAD);
        checks.says(CELLS, "a KIND and OPERANDS P, Q, R (as many as the KIND has; the others are 0).");
        int[] operands = {0, 1, 2, 2, 2, 1, 2, 2, 3};
        for (int kind = 0; kind <= 8; kind++) {
            x = new Run("put 3 8 27 28 29", "put 3 " + kind + " 11 12 13");
            othersAreNothing(x, kind, operands[kind]);
            x = new Run("put 3 8 27 28 29", "sheet 0 0 5", "lay 0 0 3", "lay 0 1 " + kind, "lay 0 2 11", "lay 0 3 12", "lay 0 4 13",
                    "read 0 0 0 1");
            othersAreNothing(x, kind, operands[kind]);
            checks.due(x, "put 3 8 27 28 29", 1);
            checks.due(x, "undo", 1);
            othersAreNothing(x, kind, operands[kind]);
            checks.due(x, "keep 0", 0);
            checks.due(x, "put 3 8 27 28 29", 1);
            checks.due(x, "back 0", kind == 0 ? 0 : 1);
            othersAreNothing(x, kind, operands[kind]);
        }
        x = new Run("tell when 3 27 28 29;pick 3 11;");
        othersAreNothing(x, 5, 1);
    }

    private static void othersAreNothing(Run x, int kind, int n) {
        checks.row(x, "cell 3", kind, n >= 1 ? 11 : 0, n >= 2 ? 12 : 0, n >= 3 ? 13 : 0);
    }

    private static void values() {
        checks.says(CELLS, "VALUES are whole numbers of 32 bits (what is beyond is lost).");
        Run x = new Run("tell " + ENDS + "sum 9 4 6;sum 10 5 6;mul 11 4 4;sub 12 29 4;mul 13 6 6;add 14 4 4;sum 15 0 8;mul 16 3 3;");
        checks.row(x, "value", 256, 65536, 128, 32768, MIN, 1, MAX, MIN, 0, 0, MIN, 0, MIN, 1, 0);
        // 256, 65536, 128, 32768, MIN, 1, MAX, MIN, 0: the two MIN make 0 with MAX and 1 left, which make MIN.
        checks.due(x, "value 15", MIN + 256 + 65536 + 128 + 32768);
        checks.due(x, "value 16", 1073741824);
    }

    private static void kinds() {
        checks.says(KINDS, "KINDS: 0 none: 0.");
        Run x = new Run("put 0 1 7 0 0", "put 0 0 7 7 7");
        checks.due(x, "value 0", 0);
        checks.due(x, "cell 0 4", 0);
        checks.due(x, "cell 0 7", 0);
        checks.says(KINDS, "1 num P (0 to 999): P.");
        checks.due(x, "put 0 1 999 0 0", 1);
        checks.due(x, "value 0", 999);
        checks.due(x, "put 0 1 0 0 0", 1);
        checks.due(x, "value 0", 0);
        checks.due(x, "put 0 1 1000 0 0", BAD);
        checks.due(x, "put 0 1 -1 0 0", BAD);
        checks.due(x, "cell 0 1", 0);
        checks.says(KINDS, "2 add, 3 sub, 4 mul P Q (CELLS): by the VALUES of P, Q.");
        x = new Run("tell num 0 7;num 29 9;add 1 0 29;sub 2 0 29;mul 3 0 29;sub 4 29 29;add 5 28 28;sub 6 28 29;mul 7 6 6;");
        checks.row(x, "value", 7, 16, -2, 63, 0, 0, -9, 81);
        for (int kind = 2; kind <= 4; kind++) {
            for (String c : NO_CELLS) {
                checks.due(x, "put 9 " + kind + " " + c + " 0 0", BAD);
                checks.due(x, "put 9 " + kind + " 0 " + c + " 0", BAD);
            }
        }
        checks.due(x, "rule 0", 9);
    }

    private static void picks() {
        checks.says(KINDS, "5 pick P (a CELL): the VALUE of the CELL whose number the VALUE of P leaves by 30 (0 to 29 always).");
        int[] numbers = {0, 1, 28, 29, 30, 31, 59, 60, 899, 900, 999};
        for (int n : numbers) picks("num 20 " + n + ";", n % 30);
        int[] below = {1, 29, 30, 31, 60, 61, 999};
        int[] leaves = {29, 1, 0, 29, 0, 29, 21};
        for (int i = 0; i < below.length; i++) picks("num 21 " + below[i] + ";sub 20 22 21;", leaves[i]);
        // 2147483648 is 71582788 times 30 and 8: MIN leaves 22, MAX 7.
        Run x = new Run("tell " + ENDS + "pick 9 4;pick 10 6;num 22 55;num 7 66;");
        checks.due(x, "value 9", 55);
        checks.due(x, "reads 9 1", 22);
        checks.due(x, "value 10", 66);
        checks.due(x, "reads 10 1", 7);
        for (String c : NO_CELLS) checks.due(x, "put 0 5 " + c + " 0 0", BAD);
    }

    private static void picks(String told, int picked) {
        Run x = new Run("tell " + told + "pick 23 20;");
        checks.due(x, "reads 23 0", 20);
        checks.due(x, "reads 23 1", picked);
        if (picked < 20 || picked > 23) {
            checks.due(x, "put " + picked + " 1 777 0 0", 2);
            checks.due(x, "value 23", 777);
        }
    }

    private static void spans() {
        checks.says(KINDS, "6 sum, 7 most P Q (CELLS, P no more than Q): of all CELLS from P to Q the VALUES summed, the greatest.");
        Run x = new Run("tell num 0 3;num 1 9;num 2 5;num 28 2;sum 10 0 2;most 11 0 2;sum 12 1 1;most 13 1 1;sum 14 0 9;most 15 2 9;");
        for (int c = 10; c < 16; c++) checks.due(x, "value " + c, new int[] {17, 9, 9, 9, 17, 5}[c - 10]);
        x = new Run("tell " + ENDS + "most 9 4 4;most 10 4 6;most 11 4 5;sub 12 29 5;sub 13 12 5;most 14 12 13;most 15 12 16;sum 17 12 13;");
        checks.due(x, "value 9", MIN);
        checks.due(x, "value 10", MAX);
        checks.due(x, "value 11", 1);
        checks.due(x, "value 14", -1);
        checks.due(x, "cell 15 4", 2);
        checks.due(x, "value 17", -3);
        x = new Run("tell sum 29 0 28;most 28 0 27;num 0 4;num 27 6;");
        checks.due(x, "value 28", 6);
        checks.due(x, "value 29", 16);
        for (String kind : new String[] {"6", "7"}) {
            checks.due(x, "put 1 " + kind + " 3 3 0", 1);
            for (String c : NO_CELLS) {
                checks.due(x, "put 0 " + kind + " " + c + " 29 0", BAD);
                checks.due(x, "put 0 " + kind + " 0 " + c + " 0", BAD);
            }
            checks.due(x, "put 0 " + kind + " 1 0 0", BAD);
            checks.due(x, "put 0 " + kind + " 29 28 0", BAD);
            checks.due(x, "put 0 " + kind + " 29 0 0", BAD);
        }
    }

    private static void whens() {
        checks.says(KINDS, "8 when P Q R (CELLS): the VALUE of Q, if that of P is above 0, else that of R.");
        Run x = new Run("tell " + ENDS + "num 20 11;num 21 22;sub 22 29 5;when 10 4 20 21;when 11 5 20 21;when 12 6 20 21;when 13 8 20 21;"
                + "when 14 22 20 21;when 15 28 20 21;");
        // by MIN, 1, MAX, 0, -1 and the 0 of none
        for (int c = 10; c < 16; c++) checks.due(x, "value " + c, new int[] {22, 11, 11, 22, 22, 22}[c - 10]);
        for (String c : NO_CELLS) {
            checks.due(x, "put 0 8 " + c + " 0 0", BAD);
            checks.due(x, "put 0 8 0 " + c + " 0", BAD);
            checks.due(x, "put 0 8 0 0 " + c, BAD);
        }
        checks.due(x, "put 16 8 29 29 29", 1);
    }

    private static void reads() {
        checks.says(READS, "READS of a CELL, in this order, each as soon as all ahead of it have VALUES: add, sub, mul P, then Q;");
        for (int kind = 2; kind <= 4; kind++) {
            checks.row(new Run("put 5 " + kind + " 9 2 0"), "reads 5", 9, 2, NONE);
            checks.row(new Run("put 9 2 9 9 0", "put 5 " + kind + " 9 2 0"), "reads 5", 9, NONE);
            checks.row(new Run("put 2 2 2 2 0", "put 5 " + kind + " 9 2 0"), "reads 5", 9, 2, NONE);
        }
        checks.says(READS, "pick P, then the CELL that is picked;");
        checks.row(new Run("put 9 1 3 0 0", "put 5 5 9 0 0"), "reads 5", 9, 3, NONE);
        checks.row(new Run("put 9 5 9 0 0", "put 5 5 9 0 0"), "reads 5", 9, NONE);
        checks.row(new Run("put 9 1 3 0 0", "put 3 5 3 0 0", "put 5 5 9 0 0"), "reads 5", 9, 3, NONE);
        checks.says(READS, "sum, most all from P to Q;");
        for (int kind = 6; kind <= 7; kind++) {
            checks.row(new Run("put 5 " + kind + " 7 10 0"), "reads 5", 7, 8, 9, 10, NONE);
            checks.row(new Run("put 5 " + kind + " 7 7 0"), "reads 5", 7, NONE);
            checks.row(new Run("put 9 5 9 0 0", "put 5 " + kind + " 7 10 0"), "reads 5", 7, 8, 9, NONE);
            checks.row(new Run("put 7 5 7 0 0", "put 5 " + kind + " 7 10 0"), "reads 5", 7, NONE);
            checks.row(new Run("put 10 5 10 0 0", "put 5 " + kind + " 7 10 0"), "reads 5", 7, 8, 9, 10, NONE);
        }
        checks.says(READS, "when P, then Q or R.");
        checks.row(new Run("put 9 1 1 0 0", "put 5 8 9 2 3"), "reads 5", 9, 2, NONE);
        checks.row(new Run("put 9 1 0 0 0", "put 5 8 9 2 3"), "reads 5", 9, 3, NONE);
        checks.row(new Run("put 9 5 9 0 0", "put 5 8 9 2 3"), "reads 5", 9, NONE);
        checks.says(READS, "(One that is met again is READ once.)");
        for (int kind = 2; kind <= 4; kind++) checks.row(new Run("put 5 " + kind + " 9 9 0"), "reads 5", 9, NONE);
        checks.row(new Run("put 9 1 9 0 0", "put 5 5 9 0 0"), "reads 5", 9, NONE);
        checks.row(new Run("put 9 1 1 0 0", "put 5 8 9 9 3"), "reads 5", 9, NONE);
        checks.row(new Run("put 5 8 9 3 9"), "reads 5", 9, NONE);
        Run x = new Run("put 5 2 9 9 0");
        checks.due(x, "cell 5 7", 1);
        checks.due(x, "cell 9 8", 1);
        checks.due(x, "rule 6", 1);
    }

    private static void waits() {
        checks.says(READS, "A CELL has a VALUE as soon as all that it READS have; so on, till no more get one.");
        // The way that is not taken, the CELL that is not picked, may lead to the CELL itself.
        Run x = new Run("tell num 0 1;num 2 7;when 1 0 2 1;num 4 2;pick 3 4;when 5 6 5 2;");
        checks.due(x, "rule 1", 30);
        for (int c : new int[] {1, 3, 5}) checks.due(x, "value " + c, 7);
        x = new Run();
        for (int c = 0; c < 29; c++) checks.due(x, "put " + c + " 2 " + (c + 1) + " 29 0", 1);
        checks.due(x, "rule 1", 30);
        checks.due(x, "put 29 1 1 0 0", 30);
        checks.due(x, "value 0", 30);
        x = new Run("tell num 0 1;add 29 28 0;add 28 27 0;add 27 26 0;");
        checks.due(x, "value 29", 3);
        checks.says(READS, "One that gets none WAITS for the first that it READS and that has none (it READS none behind that).");
        x = new Run("tell pick 9 9;pick 8 8;add 1 9 8;add 2 0 8;sum 3 7 9;when 4 9 8 0;when 5 0 9 8;pick 6 8;add 7 0 0;sub 10 8 9;");
        checks.row(x, "cell 1", 2, 9, 8, 0, 1, NONE, 9, 1);
        checks.row(x, "cell 2", 2, 0, 8, 0, 1, NONE, 8, 2);
        checks.row(x, "cell 3", 6, 7, 9, 0, 1, NONE, 8, 2);
        checks.row(x, "cell 4", 8, 9, 8, 0, 1, NONE, 9, 1);
        checks.row(x, "cell 5", 8, 0, 9, 8, 1, NONE, 8, 2);
        checks.row(x, "cell 6", 5, 8, 0, 0, 1, NONE, 8, 1);
        checks.row(x, "cell 7", 2, 0, 0, 0, 0, 1, NONE, 1);
        checks.row(x, "cell 10", 3, 8, 9, 0, 1, NONE, 8, 1);
        checks.says(READS, "CIRCULAR is a CELL from which WAITING leads back to it.");
        for (int c : new int[] {1, 2, 3, 4, 5, 6, 10}) checks.due(x, "cell " + c + " 4", 1);
        checks.due(x, "cell 8 4", 2);
        checks.due(x, "cell 9 4", 2);
        checks.due(x, "rule 3", 2);
        // 1 READS 2 but WAITS for 3; 2 WAITS for 1: no way leads back from 1, but 3 WAITS for itself.
        x = new Run("tell add 1 3 2;add 2 1 0;pick 3 3;");
        checks.due(x, "cell 1 4", 1);
        checks.due(x, "cell 2 4", 1);
        checks.due(x, "cell 3 4", 2);
        checks.due(new Run("tell sum 0 0 0;"), "cell 0 4", 2);
        checks.due(new Run("tell most 29 0 29;"), "cell 29 4", 2);
        checks.due(new Run("tell when 0 1 0 0;"), "cell 0 4", 2);
        checks.due(new Run("tell pick 0 1;"), "cell 0 4", 2);
    }

    private static void heights() {
        checks.says(HEIGHT, "HEIGHT of a CELL with a VALUE: 0, if it READS none, else 1 more than the greatest HEIGHT of those that it READS.");
        Run x = new Run("tell num 0 1;add 1 0 0;add 2 1 0;add 3 0 2;sum 4 0 3;most 5 29 29;when 6 0 4 3;when 7 28 4 3;pick 8 2;pick 9 9;add 10 9 9;");
        int[] heights = {0, 1, 2, 3, 4, 1, 5, 4, 4, NONE, NONE};
        for (int c = 0; c < heights.length; c++) checks.due(x, "cell " + c + " 5", heights[c]);
        checks.due(x, "cell 29 5", 0);
        // What is not READ does not lift: when 7 READS 28 and 3, not 4.
        checks.due(x, "put 28 1 1 0 0", 2);
        checks.due(x, "cell 7 5", 5);
        checks.due(x, "put 2 1 1 0 0", 6);
        checks.due(x, "cell 4 5", 2);
        checks.says(HEIGHT, "READERS of a CELL: those that READ it.");
        x = new Run("tell pick 9 9;add 1 9 5;add 2 5 9;add 9 9 5;when 3 5 6 7;");
        checks.row(x, "reader 9", 1, 2, 9, NONE);
        checks.row(x, "reader 5", 2, 3, NONE);
        checks.row(x, "reader 6", NONE);
        checks.row(x, "reader 7", 3, NONE);
    }

    private static void needs() {
        checks.says(NEEDS, "NEEDS of a CELL: those that it READS, those that these READ, and so on.");
        Run x = new Run("tell num 0 1;add 1 0 29;add 2 1 28;pick 3 3;add 4 2 3;add 5 4 27;add 6 7 0;add 7 6 0;");
        checks.due(x, "far 0 0", 0);
        checks.due(x, "far 1 0", Checks.set(0, 29));
        checks.due(x, "far 2 0", Checks.set(0, 1, 28, 29));
        checks.due(x, "far 3 0", Checks.set(3));
        checks.due(x, "far 4 0", Checks.set(0, 1, 2, 3, 28, 29));
        checks.due(x, "far 5 0", Checks.set(0, 1, 2, 3, 4, 28, 29));
        checks.due(x, "far 6 0", Checks.set(6, 7));
        checks.says(NEEDS, "HANGS on it: all that NEED it.");
        checks.due(x, "far 0 1", Checks.set(1, 2, 4, 5));
        checks.due(x, "far 29 1", Checks.set(1, 2, 4, 5));
        checks.due(x, "far 27 1", 0);
        checks.due(x, "far 3 1", Checks.set(3, 4, 5));
        checks.due(x, "far 7 1", Checks.set(6, 7));
        checks.due(x, "far 5 1", 0);
    }

    private static void rule() {
        checks.says("Promise 6", "How many: 0 CELLS that have a FORMULA (no none),");
        Run x = new Run("put 3 0 0 0 0");
        checks.due(x, "rule 0", 0);
        checks.due(x, "put 3 1 0 0 0", 1);
        checks.due(x, "rule 0", 1);
        checks.due(x, "put 3 0 0 0 0", 1);
        checks.due(x, "rule 0", 0);
        // 3 and 4 round, 5 by itself; 6 to 8 WAIT for such.
        x = new Run("tell num 0 1;add 1 0 0;add 2 1 0;add 3 4 0;add 4 3 0;pick 5 5;add 6 5 0;sum 7 2 6;when 8 7 0 0;");
        checks.says("Promise 6", "1 with a VALUE,");
        checks.due(x, "rule 1", 24);
        checks.says("Promise 6", "2 that WAIT,");
        checks.due(x, "rule 2", 6);
        checks.says("Promise 6", "3 CIRCULAR,");
        checks.due(x, "rule 3", 3);
        checks.says("Promise 6", "4 circles,");
        checks.due(x, "rule 4", 2);
        checks.says("Promise 6", "5 the greatest HEIGHT,");
        checks.due(x, "rule 5", 2);
        checks.says("Promise 6", "6 READS of all,");
        checks.due(x, "rule 6", 1 + 2 + 1 + 1 + 1 + 1 + 2 + 1);
        checks.says("Promise 6", "7 CHANGES that can be undone.");
        checks.due(x, "rule 7", 0);
        for (int i = 1; i <= 22; i++) {
            checks.due(x, "put 9 0 0 0 0", 1);
            checks.due(x, "rule 7", Math.min(i, 20));
        }
        checks.due(x, "undo", 1);
        checks.due(x, "rule 7", 19);
    }

    private static void ruleAtItsEnds() {
        checks.says("Promise 6", "BAD.");
        for (String what : new String[] {"-1", "8", "9", "MIN", "MAX"}) {
            for (String[] state : States.ALL) checks.unchanged(state, "rule " + what, BAD);
        }
        checks.says("Promise 6", "How many: 0 CELLS that have a FORMULA (no none), 1 with a VALUE, 2 that WAIT, 3 CIRCULAR, 4 circles, "
                + "5 the greatest HEIGHT, 6 READS of all, 7 CHANGES that can be undone.");
        checks.row(new Run(), "rule", 0, 30, 0, 0, 0, 0, 0, 0);
        for (int what = 0; what < 8; what++) checks.unchanged(States.RICH, "rule " + what, new Run(States.RICH).ask("rule " + what));
        Run x = new Run();
        for (int c = 0; c < 30; c++) checks.due(x, "put " + c + " 5 " + c + " 0 0", 1);
        checks.row(x, "rule", 30, 0, 30, 30, 30, 0, 30, 20);
        x = new Run();
        for (int c = 0; c < 30; c++) x.ask("put " + c + " 2 " + (c ^ 1) + " 0 0");
        checks.row(x, "rule", 30, 0, 30, 30, 15, 0, 30, 20);
        x = new Run();
        for (int c = 0; c < 30; c++) x.ask("put " + c + " 2 " + (c + 1) % 30 + " 0 0");
        checks.row(x, "rule", 30, 0, 30, 30, 1, 0, 30, 20);
        x = new Run();
        for (int c = 1; c < 30; c++) x.ask("put " + c + " 6 0 " + (c - 1) + " 0");
        checks.row(x, "rule", 29, 30, 0, 0, 0, 29, 435, 20);
        // The same way down: CELL 0 alone is the highest.
        x = new Run();
        for (int c = 0; c < 29; c++) x.ask("put " + c + " 2 " + (c + 1) + " " + (c + 1) + " 0");
        checks.row(x, "rule", 29, 30, 0, 0, 0, 29, 29, 20);
        x = new Run();
        for (int c = 0; c < 30; c++) x.ask("put " + c + " 7 0 29 0");
        checks.row(x, "rule", 30, 0, 30, 1, 1, 0, 30, 20);
    }

    private static void cell() {
        String part = "Promise 7";
        Run x = new Run("tell num 29 999;when 0 29 28 27;add 1 0 29;pick 2 2;add 3 2 0;sum 4 0 29;");
        checks.says(part, "Of a CELL: 0 KIND, 1 to 3 its OPERANDS,");
        checks.row(x, "cell 0", 8, 29, 28, 27);
        checks.row(x, "cell 29", 1, 999, 0, 0);
        checks.row(x, "cell 28", 0, 0, 0, 0);
        checks.says(part, "4 whether it has a VALUE (0), WAITS (1), is CIRCULAR (2),");
        checks.due(x, "cell 0 4", 0);
        checks.due(x, "cell 28 4", 0);
        checks.due(x, "cell 3 4", 1);
        checks.due(x, "cell 4 4", 1);
        checks.due(x, "cell 2 4", 2);
        checks.says(part, "5 HEIGHT (NONE: no VALUE),");
        checks.due(x, "cell 28 5", 0);
        checks.due(x, "cell 1 5", 2);
        checks.due(x, "cell 2 5", NONE);
        checks.due(x, "cell 3 5", NONE);
        checks.says(part, "6 for which it WAITS (NONE),");
        checks.due(x, "cell 0 6", NONE);
        checks.due(x, "cell 28 6", NONE);
        checks.due(x, "cell 2 6", 2);
        checks.due(x, "cell 3 6", 2);
        checks.due(x, "cell 4 6", 2);
        checks.due(new Run("tell add 1 0 0;pick 0 0;"), "cell 1 6", 0);
        checks.says(part, "7 how many it READS,");
        checks.due(x, "cell 29 7", 0);
        checks.due(x, "cell 0 7", 2);
        checks.due(x, "cell 2 7", 1);
        checks.due(x, "cell 4 7", 3);
        checks.due(new Run("tell sum 29 0 29;"), "cell 29 7", 30);
        checks.says(part, "8 how many READERS it has.");
        checks.due(x, "cell 27 8", 0);
        checks.due(x, "cell 29 8", 2);
        checks.due(x, "cell 2 8", 3);
        x = new Run();
        for (int c = 0; c < 30; c++) x.ask("put " + c + " 3 7 0 0");
        checks.due(x, "cell 7 8", 30);
        checks.due(x, "cell 0 8", 0);
        checks.says(part, "BAD.");
        for (String c : NO_CELLS) {
            for (int what = 0; what < 9; what++) checks.due(x, "cell " + c + " " + what, BAD);
            checks.unchanged(States.RICH, "cell " + c + " 4", BAD);
        }
        for (String what : new String[] {"-1", "9", "10", "MIN", "MAX"}) {
            for (int c : new int[] {0, 29, 30}) checks.due(x, "cell " + c + " " + what, BAD);
            checks.unchanged(States.RICH, "cell 0 " + what, BAD);
        }
    }

    private static void value() {
        String part = "Promise 8";
        checks.says(part, "The VALUE of a CELL");
        Run x = new Run("tell num 0 1;num 29 2;pick 3 3;add 4 3 0;sub 5 6 0;");
        checks.due(x, "value 0", 1);
        checks.due(x, "value 29", 2);
        checks.due(x, "value 5", -1);
        checks.says(part, "(0: it has none, or there is no such CELL).");
        checks.due(x, "value 3", 0);
        checks.due(x, "value 4", 0);
        for (String c : NO_CELLS) {
            checks.due(x, "value " + c, 0);
            checks.unchanged(States.RICH, "value " + c, 0);
        }
        // A VALUE that was there is not told any more.
        checks.due(x, "put 0 2 0 0 0", 2);
        checks.due(x, "value 0", 0);
        checks.due(x, "value 5", 0);
    }

    private static void readsOf() {
        String part = "Promise 9";
        checks.says(part, "The i-th CELL (0 on) that a CELL READS.");
        Run x = new Run("tell sum 29 0 29;most 0 28 28;sub 1 3 2;");
        for (int i = 0; i < 30; i++) checks.due(x, "reads 29 " + i, i);
        checks.row(x, "reads 1", 3, 2);
        checks.says(part, "BAD: c, i below 0;");
        for (String c : NO_CELLS) checks.due(x, "reads " + c + " 0", BAD);
        for (String i : new String[] {"-1", "MIN"}) checks.due(x, "reads 29 " + i, BAD);
        checks.unchanged(States.RICH, "reads 30 0", BAD);
        checks.unchanged(States.RICH, "reads 0 -1", BAD);
        checks.says(part, "NONE: there are not so many.");
        checks.due(x, "reads 29 30", NONE);
        checks.due(x, "reads 0 1", NONE);
        checks.due(x, "reads 1 2", NONE);
        checks.due(x, "reads 2 0", NONE);
        for (String i : new String[] {"31", "32", "33", "64", "MAX"}) checks.due(x, "reads 29 " + i, NONE);
        checks.unchanged(States.RICH, "reads 0 0", NONE);
    }

    private static void readerOf() {
        String part = "Promise 10";
        checks.says(part, "The i-th READER (0 on, by their numbers) of a CELL.");
        Run x = new Run();
        for (int c = 29; c >= 0; c--) x.ask("put " + c + " 3 7 0 0");
        for (int i = 0; i < 30; i++) checks.due(x, "reader 7 " + i, i);
        Run y = new Run("put 29 2 4 4 0", "put 3 2 4 4 0", "put 11 2 5 4 0");
        checks.row(y, "reader 4", 3, 11, 29, NONE);
        checks.says(part, "BAD: c, i below 0;");
        for (String c : NO_CELLS) checks.due(x, "reader " + c + " 0", BAD);
        for (String i : new String[] {"-1", "MIN"}) checks.due(x, "reader 7 " + i, BAD);
        checks.unchanged(States.RICH, "reader 30 0", BAD);
        checks.unchanged(States.RICH, "reader 0 -1", BAD);
        checks.says(part, "NONE: there are not so many.");
        for (String i : new String[] {"30", "31", "32", "64", "MAX"}) checks.due(x, "reader 7 " + i, NONE);
        checks.due(x, "reader 0 0", NONE);
        checks.due(y, "reader 5 1", NONE);
        checks.unchanged(States.RICH, "reader 29 0", NONE);
    }

    private static void far() {
        String part = "Promise 11";
        checks.says(part, "What a CELL NEEDS (what 0), what HANGS on it (1) (bits).");
        Run x = new Run();
        checks.due(x, "far 0 0", 0);
        checks.due(x, "far 29 1", 0);
        for (int c = 0; c < 29; c++) x.ask("put " + c + " 2 " + (c + 1) + " 29 0");
        checks.due(x, "far 0 0", ALL & ~1);
        checks.due(x, "far 29 1", ALL & ~(1 << 29));
        checks.due(x, "far 29 0", 0);
        checks.due(x, "far 0 1", 0);
        checks.due(x, "put 29 2 0 0 0", 30);
        for (int c = 0; c < 30; c++) checks.due(x, "far " + c + " " + (c & 1), ALL);
        // A way down through all numbers, against the order in which they are looked through.
        x = new Run();
        for (int c = 29; c > 0; c--) x.ask("put " + c + " 2 " + (c - 1) + " " + (c - 1) + " 0");
        checks.due(x, "far 29 0", ALL & ~(1 << 29));
        checks.due(x, "far 0 1", ALL & ~1);
        checks.says(part, "BAD.");
        for (String c : NO_CELLS) {
            checks.due(x, "far " + c + " 0", BAD);
            checks.due(x, "far " + c + " 1", BAD);
        }
        for (String what : new String[] {"-1", "2", "MIN", "MAX"}) {
            checks.due(x, "far 0 " + what, BAD);
            checks.unchanged(States.RICH, "far 0 " + what, BAD);
        }
        checks.unchanged(States.RICH, "far 30 0", BAD);
    }

    private static void order() {
        String part = "Promise 12";
        checks.says(part, "The i-th CELL (0 on) with a VALUE, by HEIGHT, then by number.");
        Run x = new Run();
        for (int i = 0; i < 30; i++) checks.due(x, "order " + i, i);
        for (int c = 0; c < 29; c++) x.ask("put " + c + " 2 " + (c + 1) + " 29 0");
        for (int i = 0; i < 30; i++) checks.due(x, "order " + i, 29 - i);
        Run y = new Run("tell add 0 1 1;pick 3 3;add 4 3 3;add 29 28 28;add 5 29 29;add 2 0 0;");
        for (int i = 0; i < 24; i++) checks.due(y, "order " + i, i == 0 ? 1 : i + 5);
        checks.row(y, "order", new int[] {23, 24, 25, 26, 27, 28}, 28, 0, 29, 2, 5, NONE);
        checks.says(part, "BAD: i below 0;");
        for (String i : new String[] {"-1", "-30", "MIN"}) {
            checks.due(x, "order " + i, BAD);
            checks.unchanged(States.RICH, "order " + i, BAD);
        }
        checks.says(part, "NONE: there are not so many.");
        for (String i : new String[] {"30", "31", "MAX"}) checks.due(x, "order " + i, NONE);
        checks.unchanged(States.RICH, "order 29", NONE);
        x = new Run();
        for (int c = 0; c < 30; c++) x.ask("put " + c + " 5 " + c + " 0 0");
        checks.due(x, "order 0", NONE);
        checks.due(x, "order -1", BAD);
    }

    private static void circle() {
        String part = "Promise 13";
        checks.says(part, "The i-th CELL (0 on) of the circle of a CELL, from it on, each the one for which the one ahead WAITS.");
        Run x = new Run();
        for (int c = 0; c < 30; c++) x.ask("put " + c + " 2 " + (c + 7) % 30 + " 0 0");
        for (int i = 0; i < 30; i++) checks.due(x, "circle 29 " + i, (29 + 7 * i) % 30);
        Run y = new Run("tell add 3 7 0;add 7 1 0;add 1 3 0;add 2 1 0;pick 9 9;");
        checks.row(y, "circle 7", 7, 1, 3, NONE);
        checks.row(y, "circle 1", 1, 3, 7, NONE);
        checks.row(y, "circle 9", 9, NONE);
        checks.says(part, "BAD: c, i below 0;");
        for (String c : NO_CELLS) checks.due(x, "circle " + c + " 0", BAD);
        for (String i : new String[] {"-1", "MIN"}) {
            checks.due(x, "circle 29 " + i, BAD);
            checks.due(y, "circle 0 " + i, BAD);
        }
        checks.unchanged(States.RICH, "circle 30 0", BAD);
        checks.unchanged(States.RICH, "circle 9 -1", BAD);
        checks.says(part, "NONE: it is not CIRCULAR, or the circle is not so long.");
        checks.row(y, "circle 2", NONE, NONE);
        checks.row(y, "circle 0", NONE, NONE);
        for (String i : new String[] {"3", "4", "6", "29", "30", "MAX"}) checks.due(y, "circle 7 " + i, NONE);
        for (String i : new String[] {"30", "31", "60", "MAX"}) checks.due(x, "circle 29 " + i, NONE);
        checks.unchanged(States.RICH, "circle 0 0", NONE);
        checks.unchanged(States.RICH, "circle 9 2", NONE);
    }
}
