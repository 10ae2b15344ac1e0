import java.util.ArrayList;
import java.util.Arrays;
import java.util.List;

/** A new object, and each sentence on IMAGES and SHEETS, promises 1 and 19 to 25, at its boundaries. */
public final class BoundariesOfImagesAndSheets {
    private static final int BAD = Checks.BAD, STATE = Checks.STATE, NONE = Checks.NONE;
    private static final int MIN = Integer.MIN_VALUE;
    private static final int NULL = 1, INDEX = 2, CAST = 3;
    private static final String SHEETS = "SHEETS 0 to 3";
    private static final Checks checks = new Checks(SHEETS, "Promise 1", "Promise 19", "Promise 20", "Promise 21", "Promise 22",
            "Promise 23", "Promise 24", "Promise 25");
    private static final String[] NO_SHEETS = {"-1", "4", "5", "MIN", "MAX"};
    private static final String[] NO_LANES = {"-1", "3", "MIN", "MAX"};

    public static void main(String[] args) {
        newObject();
        sheets();
        faults();
        keep();
        back();
        backRefused();
        sheet();
        sheetRefused();
        lay();
        layRefused();
        read();
        readFrom();
        readTorn();
        readBad();
        readRefused();
        readRefusedChangesNothing();
        torn();
        count();
        checks.end();
    }

    private static String[] with(String[] before, String... more) {
        List<String> calls = new ArrayList<>(Arrays.asList(before));
        calls.addAll(Arrays.asList(more));
        return calls.toArray(new String[0]);
    }

    /** The calls that make a SHEET with these ITEMS. */
    private static String[] filled(int k, int lane, int... items) {
        List<String> calls = new ArrayList<>(List.of("sheet " + k + " " + lane + " " + items.length));
        for (int i = 0; i < items.length; i++) calls.add("lay " + k + " " + i + " " + items[i]);
        return calls.toArray(new String[0]);
    }

    private static int set(int... cells) {
        return Checks.set(cells);
    }

    private static void newObject() {
        checks.says("Promise 1", "All CELLS have none;");
        Run x = new Run();
        for (int c = 0; c < 30; c++) {
            checks.row(x, "cell " + c, 0, 0, 0, 0, 0, 0, NONE, 0, 0);
            checks.due(x, "value " + c, 0);
        }
        checks.row(x, "rule", 0, 30, 0, 0, 0, 0, 0, 0);
        checks.row(x, "latest", NONE, NONE, NONE);
        checks.due(x, "undo", STATE);
        checks.due(x, "back 0", STATE);
        checks.due(x, "back 1", STATE);
        checks.due(x, "fault", 0);
        checks.due(x, "torn", 0);
        checks.says("Promise 1", "SHEETS have nothing.");
        checks.row(x, "count", 0, 0, NONE, 0, 0);
        for (int k = 0; k < 4; k++) {
            checks.due(x, "lay " + k + " 0 0", -11);
            for (int lane = 0; lane < 3; lane++) {
                checks.due(x, "read " + k + " " + lane + " 0 1", 0);
                checks.due(x, "torn", NULL);
            }
        }
        // One object does not see what another is told.
        new Run(States.RICH);
        checks.row(new Run(), "count", 0, 0, NONE, 0, 0);
    }

    private static void sheets() {
        checks.says(SHEETS, "SHEETS 0 to 3 are rows of BYTES (lane 0), SHORTS (1), INTS (2) with 0 to 40 ITEMS, or nothing (at first).");
        for (int k = 0; k < 4; k++) {
            for (int lane = 0; lane < 3; lane++) {
                Run x = new Run();
                checks.due(x, "lay " + k + " 0 1", -11);
                checks.due(x, "sheet " + k + " " + lane + " 40", 1);
                checks.due(x, "lay " + k + " 0 1", 1);
                checks.due(x, "lay " + k + " 39 1", 1);
                checks.due(x, "lay " + k + " 40 1", -12);
                checks.due(x, "sheet " + k + " " + lane + " 0", 1);
                checks.due(x, "lay " + k + " 0 1", -12);
                for (int other = 0; other < 4; other++) if (other != k) checks.due(x, "lay " + other + " 0 1", -11);
            }
        }
        // Each lane holds as many bits as it has, with a sign: P is taken, or refused.
        taken(0, 127, 127);
        taken(0, 128, -1);
        taken(0, 255, -1);
        taken(0, 256, 0);
        taken(0, 999, -1);
        taken(1, 128, 128);
        taken(1, 999, 999);
        taken(1, 1000, -1);
        taken(1, 32768, -1);
        taken(1, 65535, -1);
        taken(1, 65536, 0);
        taken(1, 65536 + 999, 999);
        taken(2, 999, 999);
        taken(2, 65536, -1);
        taken(2, MIN, -1);
    }

    /** The P of num that a SHEET of a lane holds after this was laid; -1: put() refuses it. */
    private static void taken(int lane, int laid, int p) {
        Run x = new Run(filled(3, lane, 7, 1, laid, 0, 0));
        checks.due(x, "read 3 " + lane + " 0 1", p < 0 ? -20 : 1);
        checks.due(x, "value 7", Math.max(p, 0));
    }

    private static void faults() {
        checks.says(SHEETS, "A FAULT is what the machine finds: 1 NULL (nothing),");
        Run x = new Run(filled(1, 1, 7, 1, 8, 0, 0));
        checks.due(x, "lay 0 0 0", -11);
        checks.due(x, "read 0 0 0 1", 0);
        checks.due(x, "torn", 1);
        checks.says(SHEETS, "2 INDEX,");
        checks.due(x, "lay 1 5 0", -12);
        checks.due(x, "read 1 1 1 1", 0);
        checks.due(x, "torn", 2);
        checks.says(SHEETS, "3 CAST (another lane),");
        for (int lane : new int[] {0, 2}) {
            checks.due(x, "read 1 1 0 1", 1);
            checks.due(x, "torn", 0);
            checks.due(x, "read 1 " + lane + " 0 1", 0);
            checks.due(x, "torn", 3);
        }
        checks.says(SHEETS, "4 SIZE (below 0).");
        checks.due(x, "sheet 1 1 -1", -14);
        checks.due(x, "sheet 1 1 0", 1);
    }

    private static void keep() {
        String part = "Promise 19";
        checks.says(part, "IMAGE k (0, 1) is all FORMULAS: whether there was one (1, 0).");
        Run x = new Run();
        checks.due(x, "keep 0", 0);
        checks.due(x, "keep 0", 1);
        checks.due(x, "keep 1", 0);
        checks.due(x, "keep 1", 1);
        for (int c = 0; c < 30; c++) x.ask("put " + c + " 8 " + c + " " + (29 - c) + " 7");
        checks.due(x, "keep 1", 1);
        checks.due(x, "put 3 1 3 0 0", 1);
        checks.due(x, "back 1", 30);
        for (int c = 0; c < 30; c++) checks.row(x, "cell " + c, 8, c, 29 - c, 7);
        checks.due(x, "back 0", 0);
        checks.due(x, "rule 0", 0);
        // To keep changes nothing else: what is the latest CHANGE, and what can be undone, stays.
        x = new Run("put 0 1 1 0 0", "put 0 1 2 0 0", "keep 0");
        checks.row(x, "latest", 1, 1, 0);
        checks.due(x, "rule 7", 2);
        checks.due(x, "undo", 1);
        checks.due(x, "back 0", 1);
        checks.due(x, "value 0", 2);
        checks.says(part, "BAD.");
        for (String k : new String[] {"-1", "2", "3", "MIN", "MAX"}) {
            for (String[] state : States.ALL) checks.unchanged(state, "keep " + k, BAD);
        }
    }

    private static void back() {
        String part = "Promise 20";
        checks.says(part, "All is as IMAGE k (there was no CHANGE, there is nothing to undo): CELLS that have a FORMULA.");
        Run x = new Run("keep 1", "put 0 1 5 0 0", "put 1 2 0 0 0", "put 2 5 2 0 0", "keep 0", "put 0 1 6 0 0", "put 2 0 0 0 0");
        checks.due(x, "value 1", 12);
        checks.due(x, "back 0", 3);
        checks.row(x, "value", 5, 10, 0);
        checks.due(x, "cell 2 4", 2);
        checks.row(x, "latest", NONE, NONE, NONE);
        checks.due(x, "rule 7", 0);
        checks.due(x, "undo", STATE);
        checks.due(x, "back 1", 0);
        checks.row(x, "rule", 0, 30, 0, 0, 0, 0, 0, 0);
        // The IMAGE stays as it was, whatever is made of what it told.
        checks.due(x, "back 0", 3);
        checks.due(x, "put 0 1 7 0 0", 2);
        checks.due(x, "back 0", 3);
        checks.due(x, "value 1", 10);
        checks.due(x, "count 0", 2);
        // It is of FORMULAS alone: THE TAPE, SHEETS, FAULTS stay.
        x = new Run(with(States.RICH, "back 0"));
        checks.due(x, "fault", 3);
        checks.due(x, "torn", INDEX);
        checks.due(x, "count 1", 18);
        checks.due(x, "count 2", 12);
        checks.due(x, "read 0 2 0 1", 1);
        checks.due(x, "text", 2);
    }

    private static void backRefused() {
        String part = "Promise 20";
        checks.says(part, "BAD;");
        for (String k : new String[] {"-1", "2", "3", "MIN", "MAX"}) {
            for (String[] state : States.ALL) checks.unchanged(state, "back " + k, BAD);
        }
        checks.says(part, "STATE: there is none.");
        for (int k = 0; k < 2; k++) {
            checks.unchanged(States.NEW, "back " + k, STATE);
            checks.unchanged(States.FULL_TAPE, "back " + k, STATE);
            checks.unchanged(new String[] {"put 0 1 1 0 0", "keep " + (1 - k), "put 0 1 2 0 0"}, "back " + k, STATE);
            checks.unchanged(new String[] {"put 0 1 1 0 0", "keep " + k, "text", "put 0 1 2 0 0"}, "back " + k, STATE);
        }
        // A text that is refused leaves the IMAGES.
        checks.due(new Run("keep 0", "tell !"), "back 0", 0);
    }

    private static void sheet() {
        String part = "Promise 21";
        checks.says(part, "A SHEET is a new row of ITEMS 0: 1.");
        for (int lane = 0; lane < 3; lane++) {
            for (int n : new int[] {0, 1, 5, 39, 40}) {
                Run x = new Run();
                checks.due(x, "sheet 0 " + lane + " " + n, 1);
                checks.due(x, "count 2", n);
            }
            // What was laid is gone: CELL 0 gets none of five ITEMS 0.
            Run x = new Run(with(filled(0, lane, 7, 1, 8, 0, 0), "put 0 1 9 0 0", "sheet 0 " + lane + " 5"));
            checks.due(x, "read 0 " + lane + " 0 1", 1);
            checks.due(x, "latest 0", set(0));
            checks.due(x, "cell 0 0", 0);
            checks.due(x, "cell 7 0", 0);
            // Also those behind the end of a shorter row in between.
            x = new Run(with(filled(0, lane, 7, 1, 8, 0, 0), "put 0 1 9 0 0", "sheet 0 " + lane + " 0", "sheet 0 " + lane + " 5"));
            checks.due(x, "read 0 " + lane + " 0 1", 1);
            checks.due(x, "cell 0 0", 0);
            checks.due(x, "cell 7 0", 0);
        }
        Run x = new Run("sheet 0 0 5", "sheet 0 2 6");
        checks.due(x, "read 0 0 0 1", 0);
        checks.due(x, "torn", CAST);
        checks.due(x, "read 0 2 1 1", 1);
        checks.due(x, "count 2", 6);
        // Another SHEET stays.
        x = new Run(with(filled(1, 2, 7, 1, 8, 0, 0), "sheet 0 2 5", "sheet 2 2 5", "sheet 3 2 5"));
        checks.due(x, "read 1 2 0 1", 1);
        checks.due(x, "value 7", 8);
    }

    private static void sheetRefused() {
        String part = "Promise 21";
        checks.says(part, "BAD: also n above 40;");
        for (String[] state : States.ALL) {
            for (String k : NO_SHEETS) checks.unchanged(state, "sheet " + k + " 0 5", BAD);
            for (String lane : NO_LANES) checks.unchanged(state, "sheet 0 " + lane + " 5", BAD);
            for (String n : new String[] {"41", "42", "MAX"}) {
                for (int k = 0; k < 4; k++) checks.unchanged(state, "sheet " + k + " 2 " + n, BAD);
            }
        }
        checks.due(new Run(), "sheet 4 0 -1", BAD);
        checks.due(new Run(), "sheet 0 3 -1", BAD);
        checks.says(part, "-10 - 4.");
        for (String[] state : States.ALL) {
            for (String n : new String[] {"-1", "-40", "MIN"}) {
                for (int k = 0; k < 4; k++) checks.unchanged(state, "sheet " + k + " 1 " + n, -14);
            }
        }
    }

    private static void lay() {
        String part = "Promise 22";
        checks.says(part, "ITEM i of a SHEET becomes v (its lowest bits): 1.");
        int[] beyond = {256, 65536, 0};
        for (int lane = 0; lane < 3; lane++) {
            Run x = new Run("sheet 2 " + lane + " 40");
            for (int i = 35; i < 40; i++) checks.due(x, "lay 2 " + i + " " + (new int[] {29, 8, 28, 27, 26}[i - 35] + beyond[lane]), 1);
            checks.due(x, "read 2 " + lane + " 35 1", 1);
            checks.row(x, "cell 29", 8, 28, 27, 26);
            for (int i = 0; i < 5; i++) checks.due(x, "lay 2 " + i + " " + (new int[] {1, 2, 3, 4, 5}[i] - beyond[lane]), 1);
            checks.due(x, "lay 2 2 9", 1);
            checks.due(x, "read 2 " + lane + " 0 1", 1);
            checks.row(x, "cell 1", 2, 9, 4, 0);
            checks.due(x, "lay 2 0 MIN", 1);
            checks.due(x, "read 2 " + lane + " 0 1", lane == 2 ? -20 : 1);
            checks.due(x, "lay 2 0 MAX", 1);
            checks.due(x, "read 2 " + lane + " 0 1", -20);
        }
    }

    private static void layRefused() {
        String part = "Promise 22";
        checks.says(part, "BAD: k;");
        for (String[] state : States.ALL) {
            for (String k : NO_SHEETS) checks.unchanged(state, "lay " + k + " 0 1", BAD);
        }
        checks.due(new Run(), "lay 4 -1 1", BAD);
        checks.says(part, "-10 less the FAULT: NULL,");
        checks.unchanged(States.RICH, "lay 3 0 1", -11);
        for (int k = 0; k < 4; k++) {
            for (String i : new String[] {"0", "-1", "39", "40", "MIN", "MAX"}) checks.unchanged(States.NEW, "lay " + k + " " + i + " 1", -11);
        }
        checks.says(part, "INDEX.");
        for (String i : new String[] {"-1", "40", "MIN", "MAX"}) {
            for (int k = 0; k < 3; k++) checks.unchanged(States.RICH, "lay " + k + " " + i + " 1", -12);
        }
        checks.unchanged(States.RICH, "lay 0 12 1", -12);
        checks.unchanged(States.RICH, "lay 1 6 1", -12);
        checks.unchanged(States.RICH, "lay 2 0 1", -12);
        checks.unchanged(States.ALL_UNDOABLE, "lay 0 40 1", -12);
        checks.unchanged(States.ALL_UNDOABLE, "lay 0 39 0", 1);
    }

    private static void read() {
        String part = "Promise 23";
        checks.says(part, "n (0 to 8) CHANGES (CELL, KIND, P, Q, R) are read of a SHEET taken as of a lane,");
        for (int n = 0; n <= 8; n++) {
            Run x = new Run(States.ALL_UNDOABLE);
            checks.due(x, "read 0 1 0 " + n, n);
            checks.due(x, "torn", 0);
            for (int c = 20; c < 28; c++) checks.due(x, "value " + c, c - 20 < n ? c - 19 : 0);
            checks.due(x, "latest 0", n == 0 ? set(19) : set(19 + n));
            checks.due(x, "rule 7", 20);
        }
        for (int lane = 0; lane < 3; lane++) {
            Run x = new Run(filled(lane, lane, 29, 8, 28, 27, 26));
            checks.due(x, "read " + lane + " " + lane + " 0 1", 1);
            checks.row(x, "cell 29", 8, 28, 27, 26);
            checks.due(x, "rule 0", 1);
        }
        checks.says(part, "one behind another as by put(): how many came.");
        // The second is EVALUATED by what the first made; each can be undone by itself.
        Run x = new Run(with(filled(0, 2, 0, 1, 5, 0, 0, 1, 2, 0, 0, 0, 0, 1, 6, -1, 99), "read 0 2 0 3"));
        checks.row(x, "latest", set(0, 1), set(0, 1), 0);
        checks.row(x, "value", 6, 12);
        checks.due(x, "rule 7", 3);
        checks.due(x, "undo", 2);
        checks.row(x, "value", 5, 10);
        checks.due(x, "undo", 1);
        checks.row(x, "value", 5, 0);
        checks.due(x, "undo", 1);
        checks.due(x, "rule 0", 0);
        checks.due(x, "undo", STATE);
    }

    private static void readFrom() {
        checks.says("Promise 23", "five ITEMS each from ITEM f on,");
        Run x = new Run(filled(0, 0, 1, 1, 1, 1, 1, 1, 1));
        for (int f = 0; f <= 2; f++) {
            checks.due(x, "read 0 0 " + f + " 1", 1);
            checks.due(x, "torn", 0);
        }
        checks.due(x, "read 0 0 3 1", 0);
        checks.due(x, "torn", INDEX);
        x = new Run(filled(0, 0, 9, 7, 1, 5, 0, 0, 8, 1, 6, 0, 0));
        checks.due(x, "read 0 0 1 2", 2);
        checks.due(x, "value 7", 5);
        checks.due(x, "value 8", 6);
        checks.due(x, "latest 0", set(8));
        x = new Run(States.ALL_UNDOABLE);
        checks.due(x, "read 0 1 35 1", 1);
        checks.due(x, "latest 0", set(27));
        checks.due(x, "read 0 1 36 1", 0);
        checks.due(x, "latest 0", set(27));
    }

    private static void readTorn() {
        checks.says("Promise 23", "What the machine refuses: those that were whole ahead came (its FAULT is asked by torn()).");
        for (int more = 0; more < 5; more++) {
            int[] items = Arrays.copyOf(new int[] {7, 1, 5, 0, 0, 8, 1, 6, 0, 0, 99, 99, 99, 99}, 10 + more);
            Run x = new Run(filled(1, 1, items));
            checks.due(x, "read 1 1 0 8", 2);
            checks.due(x, "torn", INDEX);
            checks.due(x, "value 7", 5);
            checks.due(x, "value 8", 6);
            checks.due(x, "rule 7", 2);
            checks.due(x, "latest 0", set(8));
        }
        // RICH was torn by INDEX already: one more that comes to nothing leaves all as it was.
        for (String call : new String[] {"read 0 2 8 1", "read 0 2 12 8", "read 0 2 -1 8", "read 0 2 -5 8", "read 0 2 -4 1", "read 0 2 40 1",
            "read 0 2 MIN 8", "read 0 2 MAX 8", "read 0 2 2147483643 8", "read 1 0 2 1", "read 2 1 0 1", "read 2 1 0 8", "read 2 1 MIN 8"}) {
            checks.unchanged(States.RICH, call, 0);
        }
        String[] byCast = with(States.RICH, "read 0 1 0 1");
        for (String call : new String[] {"read 0 0 0 8", "read 0 1 -1 1", "read 1 2 0 1", "read 2 0 0 1", "read 2 2 MAX 1"}) {
            checks.unchanged(byCast, call, 0);
        }
        String[] byNull = with(States.RICH, "read 3 1 0 1");
        for (String call : new String[] {"read 3 0 0 8", "read 3 2 -1 1", "read 3 1 MAX 1"}) checks.unchanged(byNull, call, 0);
    }

    private static void readBad() {
        checks.says("Promise 23", "BAD: k, lane, n;");
        for (String[] state : States.ALL) {
            for (String k : NO_SHEETS) checks.unchanged(state, "read " + k + " 2 0 1", BAD);
            for (String lane : NO_LANES) checks.unchanged(state, "read 0 " + lane + " 0 1", BAD);
            for (String n : new String[] {"-1", "9", "10", "MIN", "MAX"}) checks.unchanged(state, "read 0 2 0 " + n, BAD);
        }
        checks.due(new Run(), "read 4 0 0 0", BAD);
        checks.due(new Run(), "read 0 3 0 0", BAD);
        // It is BAD ahead of what would be refused.
        Run x = new Run(filled(0, 0, 30, 1, 5, 0, 0));
        checks.due(x, "read 0 0 0 9", BAD);
        checks.due(x, "read 0 0 0 8", -20);
    }

    private static void readRefused() {
        checks.says("Promise 23", "-20 less i: the i-th, whole, is refused by put():");
        String[] refused = {"-1 0 0 0 0", "30 0 0 0 0", "0 -1 0 0 0", "0 9 0 0 0", "0 1 -1 0 0", "0 1 1000 0 0", "0 2 30 0 0", "0 3 0 30 0",
            "0 4 0 -1 0", "0 5 30 0 0", "0 6 1 0 0", "0 6 0 30 0", "0 7 29 28 0", "0 7 -1 0 0", "0 8 30 0 0", "0 8 0 30 0", "0 8 0 0 30"};
        for (String one : refused) {
            for (int i = 0; i < 8; i++) refusedAt(i, one);
        }
        // OPERANDS that a KIND has not are not looked at.
        Run x = new Run(filled(0, 1, 0, 0, -1, 30, 99, 1, 1, 999, -1, 99, 2, 5, 29, -1, 99, 3, 6, 0, 29, -1));
        checks.due(x, "read 0 1 0 4", 4);
        checks.says("Promise 23", "the first met.");
        x = new Run(filled(0, 1, 7, 1, 5, 0, 0, 30, 0, 0, 0, 0, 7, 9, 0, 0, 0, 1, 2));
        checks.due(x, "read 0 1 0 8", -21);
        checks.due(x, "read 0 1 5 8", -20);
        checks.due(x, "read 0 1 10 8", -20);
        checks.due(x, "read 0 1 15 8", 0);
        checks.due(x, "torn", INDEX);
        checks.due(x, "read 0 1 0 1", 1);
        // What is not whole is not refused by put(), and what the machine refuses ahead is met ahead.
        x = new Run(filled(0, 1, 7, 1, 5, 0, 0, 30, 9, 0, 0));
        checks.due(x, "read 0 1 0 2", 1);
        checks.due(x, "torn", INDEX);
        checks.due(x, "read 0 1 -5 3", 0);
        checks.due(new Run(filled(0, 1, 30, 1, 5, 0, 0)), "read 0 2 0 1", 0);
    }

    private static void refusedAt(int i, String one) {
        int[] items = new int[40];
        for (int j = 0; j < 8; j++) items[5 * j] = j;
        for (int j = 0; j < 5; j++) items[5 * i + j] = Integer.parseInt(one.split(" ")[j]);
        Run x = new Run(filled(0, 2, items));
        checks.due(x, "read 0 2 0 8", -20 - i);
        checks.due(x, "rule 7", 0);
        checks.due(x, "latest 0", NONE);
        checks.due(x, "read 0 2 0 " + (i + 1), -20 - i);
        checks.due(x, "read 0 2 0 " + i, i);
        checks.due(x, "rule 7", i);
    }

    private static void readRefusedChangesNothing() {
        checks.says("Promise 23", "then none came (all is as it was, the latest CHANGE, what can be undone, too);");
        String[] rich = with(States.RICH, "lay 0 7 1000");
        checks.unchanged(rich, "read 0 2 0 2", -21);
        checks.unchanged(rich, "read 0 2 0 8", -21);
        checks.unchanged(rich, "read 0 2 5 1", -20);
        // The oldest that can be undone would be lost by the seven that are whole ahead.
        checks.unchanged(with(States.ALL_UNDOABLE, "lay 0 37 1000"), "read 0 1 0 8", -27);
        checks.unchanged(with(States.ALL_UNDOABLE, "lay 0 5 30"), "read 0 1 0 8", -21);
        checks.unchanged(with(States.ALL_UNDOABLE, "lay 0 0 -1", "undo"), "read 0 1 0 8", -20);
        checks.unchanged(filled(0, 0, 7, 1, 9, 0, 0, 0), "read 0 0 1 1", -20);
    }

    private static void torn() {
        String part = "Promise 24";
        checks.says(part, "The FAULT of the latest read() that came to an end;");
        Run x = new Run(filled(1, 1, 7, 1, 5, 0, 0, 3, 9, 0, 0, 0, 1));
        tornBy(x, "read 0 0 0 1", 0, NULL);
        tornBy(x, "read 0 2 -1 8", 0, NULL);
        tornBy(x, "read 1 0 0 1", 0, CAST);
        tornBy(x, "read 1 2 -1 1", 0, CAST);
        tornBy(x, "read 1 1 -1 1", 0, INDEX);
        tornBy(x, "read 1 1 7 1", 0, INDEX);
        // Those that are BAD, or refused by put(), did not come to an end.
        tornBy(x, "read 1 1 0 9", BAD, INDEX);
        tornBy(x, "read 1 1 0 2", -21, INDEX);
        tornBy(x, "read 1 1 0 1", 1, 0);
        tornBy(x, "read 1 1 0 2", -21, 0);
        tornBy(x, "read 4 1 0 1", BAD, 0);
        tornBy(x, "read 0 1 0 1", 0, NULL);
        tornBy(x, "read 1 3 0 1", BAD, NULL);
        // Others leave it.
        for (String call : new String[] {"lay 1 99 0", "sheet 1 1 -1", "tell num 3 3;", "tell !", "put 0 1 1 0 0", "undo", "storm 1 1", "keep 0",
            "back 0", "sheet 0 0 5"}) {
            x.ask(call);
            checks.due(x, "torn", NULL);
        }
        tornBy(x, "read 0 0 0 1", 1, 0);
        checks.says(part, "0.");
        checks.due(new Run(), "torn", 0);
        // Of no CHANGES no ITEM is read, and the machine finds nothing.
        x = new Run("read 0 0 0 1");
        checks.due(x, "torn", NULL);
        tornBy(x, "read 0 0 0 0", 0, 0);
        checks.unchanged(States.RICH, "torn", INDEX);
    }

    private static void tornBy(Run x, String call, int came, int fault) {
        checks.due(x, call, came);
        checks.due(x, "torn", fault);
        checks.due(x, "torn", fault);
    }

    private static void count() {
        String part = "Promise 25";
        checks.says(part, "How many: 0 IMAGES,");
        Run x = new Run();
        checks.due(x, "count 0", 0);
        checks.due(x, "keep 1", 0);
        checks.due(x, "count 0", 1);
        checks.due(x, "keep 1", 1);
        checks.due(x, "count 0", 1);
        checks.due(x, "keep 0", 0);
        checks.due(x, "count 0", 2);
        checks.says(part, "1 bytes on THE TAPE,");
        checks.due(x, "count 1", 0);
        checks.due(x, "type num", 3);
        checks.due(x, "count 1", 3);
        checks.due(new Run(States.FULL_TAPE), "count 1", 320);
        checks.says(part, "2 ITEMS of SHEET 0 (NONE: nothing),");
        checks.due(x, "sheet 1 0 7", 1);
        checks.due(x, "count 2", NONE);
        checks.row(x, "sheet 0 2", new int[] {0}, 1);
        checks.due(x, "count 2", 0);
        checks.due(x, "sheet 0 1 40", 1);
        checks.due(x, "count 2", 40);
        checks.says(part, "3 CELLS that READ a span (sum, most),");
        checks.due(x, "count 3", 0);
        for (int c = 0; c < 30; c++) {
            checks.some(x, "put " + c + " " + (6 + c % 2) + " 0 29 0");
            checks.due(x, "count 3", c + 1);
        }
        checks.due(new Run("tell add 0 1 2;pick 1 2;when 2 3 4 5;sum 6 7 7;most 8 8 8;"), "count 3", 2);
        checks.says(part, "4 VALUES of all that have one, summed (by 32 bits).");
        checks.due(x, "count 4", 0);
        // 256, 65536, 128 and 32768 make 98688; MIN, 1 and MAX make 0; then MIN comes.
        String ends = "tell num 0 256;mul 1 0 0;num 2 128;mul 3 0 2;mul 4 1 3;num 5 1;sub 6 4 5;";
        checks.due(new Run(ends), "count 4", 98688);
        checks.due(new Run(ends + "add 7 6 5;"), "count 4", MIN + 98688);
        checks.due(new Run(ends + "pick 9 9;add 10 9 9;"), "count 4", 98688);
        checks.says(part, "BAD.");
        for (String what : new String[] {"-1", "5", "6", "MIN", "MAX"}) {
            for (String[] state : States.ALL) checks.unchanged(state, "count " + what, BAD);
        }
    }
}
