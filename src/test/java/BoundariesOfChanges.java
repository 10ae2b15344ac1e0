import java.util.ArrayList;
import java.util.List;

/** Each sentence on CHANGES, promises 14 to 18, at its boundaries. */
public final class BoundariesOfChanges {
    private static final int BAD = Checks.BAD, STATE = Checks.STATE, NONE = Checks.NONE;
    private static final int ALL = (1 << 30) - 1;
    private static final String CHANGE = "A CHANGE makes";
    private static final Checks checks = new Checks(CHANGE, "Promise 14", "Promise 15", "Promise 16", "Promise 17", "Promise 18");

    /** CELL, KIND, P, Q, R that are refused, each for one number alone. */
    private static final String[] REFUSED = {
        "-1 0 0 0 0", "30 0 0 0 0", "MIN 1 5 0 0", "MAX 1 5 0 0",
        "0 -1 0 0 0", "0 9 0 0 0", "0 MIN 0 0 0", "0 MAX 0 0 0",
        "0 1 -1 0 0", "0 1 1000 0 0", "0 1 MIN 0 0", "0 1 MAX 0 0",
        "0 2 -1 0 0", "0 2 30 0 0", "0 2 0 -1 0", "0 2 0 30 0", "0 3 -1 0 0", "0 3 30 0 0", "0 3 0 -1 0", "0 3 0 30 0",
        "0 4 -1 0 0", "0 4 30 0 0", "0 4 0 -1 0", "0 4 0 30 0", "0 4 MAX 0 0", "0 4 0 MIN 0",
        "0 5 -1 0 0", "0 5 30 0 0", "0 5 MIN 0 0", "0 5 MAX 0 0",
        "0 6 -1 0 0", "0 6 0 30 0", "0 6 30 30 0", "0 6 1 0 0", "0 6 29 28 0", "0 6 -2 -1 0", "0 6 MIN 0 0", "0 6 0 MAX 0",
        "0 7 -1 0 0", "0 7 0 30 0", "0 7 30 30 0", "0 7 1 0 0", "0 7 29 28 0", "0 7 -2 -1 0", "0 7 MIN 0 0", "0 7 0 MAX 0",
        "0 8 -1 0 0", "0 8 30 0 0", "0 8 0 -1 0", "0 8 0 30 0", "0 8 0 0 -1", "0 8 0 0 30", "0 8 MIN 0 0", "0 8 0 0 MAX"};

    /** Those that are taken just so: OPERANDS at their bounds, and beyond all bounds those that the KIND has not. */
    private static final String[] TAKEN = {
        "0 0 -1 -1 -1", "29 0 30 1000 MAX", "0 1 0 -1 -1", "29 1 999 MIN MAX",
        "0 2 0 0 -1", "29 2 29 29 30", "0 3 0 29 MIN", "29 3 29 0 MAX", "0 4 0 0 -1", "29 4 29 29 30",
        "0 5 0 -1 -1", "29 5 29 30 MAX", "0 6 0 0 -1", "29 6 0 29 30", "29 6 29 29 MIN", "0 7 0 0 -1", "29 7 0 29 MAX", "29 7 29 29 30",
        "0 8 0 0 0", "29 8 29 29 29"};

    public static void main(String[] args) {
        sameFormula();
        moves();
        evaluated();
        cut();
        put();
        putRefused();
        would();
        wouldChangesNothing();
        latest();
        undo();
        undoTwenty();
        undoOneBehindAnother();
        storm();
        stormDraws();
        stormRefused();
        checks.end();
    }

    /** A CHANGE, how many it EVALUATES, and which CELLS are EVALUATED and MOVE. */
    private static void change(Run x, String call, int evaluated, int moved) {
        checks.due(x, call, Integer.bitCount(evaluated));
        checks.due(x, "latest 0", evaluated);
        checks.due(x, "latest 1", moved);
        checks.due(x, "latest 2", evaluated & ~moved);
    }

    private static int set(int... cells) {
        return Checks.set(cells);
    }

    private static void sameFormula() {
        checks.says(CHANGE, "A CHANGE makes a CELL have another FORMULA (or the same).");
        Run x = new Run("tell num 0 5;add 1 0 0;");
        change(x, "put 0 1 5 0 0", set(0), 0);
        change(x, "put 1 2 0 0 0", set(1), 0);
        change(x, "put 29 0 0 0 0", set(29), 0);
        checks.due(x, "rule 7", 3);
        change(x, "undo", set(29), 0);
    }

    private static void moves() {
        checks.says(CHANGE, "A CELL MOVES by it, if it had a VALUE and has another one or none, or had none and has one.");
        Run x = new Run("tell num 0 5;add 1 0 29;");
        change(x, "put 0 1 6 0 0", set(0, 1), set(0, 1));
        change(x, "put 0 5 0 0 0", set(0, 1), set(0, 1));
        change(x, "put 0 2 0 0 0", set(0), 0);
        change(x, "put 0 1 6 0 0", set(0, 1), set(0, 1));
        // A VALUE 0 that is lost, one that comes: value() tells 0 both times, but the CELL MOVES.
        change(x, "put 28 5 28 0 0", set(28), set(28));
        change(x, "put 28 1 0 0 0", set(28), set(28));
        change(x, "put 28 0 0 0 0", set(28), 0);
        change(x, "put 28 2 27 27 0", set(28), 0);
        // The VALUE is the same in 32 bits.
        x = new Run("tell num 0 256;mul 1 0 0;mul 2 1 1;num 3 7;add 4 3 2;");
        change(x, "put 2 0 0 0 0", set(2), 0);
        change(x, "put 2 4 1 1 0", set(2), 0);
    }

    private static void evaluated() {
        checks.says(CHANGE, "EVALUATED by it are that CELL, and each other one that READ, ahead of it, a CELL that MOVES.");
        Run x = new Run("tell num 0 1;num 1 5;num 2 7;when 3 0 1 2;num 4 2;pick 5 4;add 6 9 0;pick 9 9;add 7 6 0;");
        change(x, "put 1 1 6 0 0", set(1, 3), set(1, 3));
        change(x, "put 2 1 8 0 0", set(2, 5), set(2, 5));
        change(x, "put 0 1 0 0 0", set(0, 3), set(0, 3));
        change(x, "put 1 1 9 0 0", set(1), set(1));
        change(x, "put 2 1 9 0 0", set(2, 3, 5), set(2, 3, 5));
        change(x, "put 4 1 1 0 0", set(4, 5), set(4));
        // 6 WAITED for 9 and READ no 0 behind it; 7 WAITED for 6.
        change(x, "put 9 1 3 0 0", set(9, 6, 7), set(9, 6, 7));
        change(x, "put 0 1 4 0 0", set(0, 3, 6, 7), set(0, 6, 7));
        change(x, "put 9 2 7 0 0", set(9, 6, 7), set(9, 6, 7));
        change(x, "put 9 2 6 0 0", set(9), 0);
        change(x, "put 7 1 1 0 0", set(7), set(7));
        change(x, "put 6 1 1 0 0", set(6, 9), set(6, 9));
        // The CELL itself READ one that MOVES, and is there once; what it READS only now does not count.
        x = new Run("tell add 1 0 0;add 2 1 1;");
        change(x, "put 1 1 5 0 0", set(1, 2), set(1, 2));
        change(x, "put 0 2 2 2 0", set(0), set(0));
        change(x, "put 1 2 0 0 0", set(0, 1, 2), set(0, 1, 2));
    }

    private static void cut() {
        checks.says(CHANGE, "CUT are those EVALUATED that do not MOVE.");
        Run x = new Run("tell num 0 5;num 1 7;most 2 0 1;add 3 2 2;mul 4 0 29;when 5 0 1 29;add 6 5 4;sub 7 0 0;");
        checks.due(x, "put 0 1 6 0 0", 5);
        checks.due(x, "latest 2", set(2, 4, 5, 7));
        checks.due(x, "put 0 1 7 0 0", 5);
        checks.due(x, "put 0 1 8 0 0", 6);
        checks.due(x, "latest 2", set(4, 5, 7));
        checks.due(x, "put 0 1 8 0 0", 1);
        checks.due(x, "latest 2", set(0));
        // One that WAITS still, though for another, is CUT.
        x = new Run("tell pick 0 0;pick 1 1;add 2 0 1;");
        change(x, "put 0 1 5 0 0", set(0, 2), set(0));
        checks.due(x, "cell 2 6", 1);
    }

    private static void put() {
        String part = "Promise 14";
        checks.says(part, "A CHANGE: a CELL has another FORMULA: how many are EVALUATED.");
        Run x = new Run();
        for (int c = 0; c < 29; c++) checks.due(x, "put " + c + " 2 29 29 0", 1);
        change(x, "put 29 1 1 0 0", ALL, ALL);
        change(x, "put 29 5 29 0 0", ALL, ALL);
        checks.due(x, "rule 1", 0);
        change(x, "put 29 2 29 29 0", set(29), 0);
        change(x, "put 29 0 0 0 0", ALL, ALL);
        for (String taken : TAKEN) {
            String[] w = taken.split(" ");
            int[] operands = {0, 1, 2, 2, 2, 1, 2, 2, 3};
            int n = operands[Integer.parseInt(w[1])];
            Run y = new Run("put " + w[0] + " 8 1 2 3");
            checks.due(y, "put " + taken, 1);
            for (int i = 0; i < 4; i++) checks.due(y, "cell " + w[0] + " " + i, i <= n ? Integer.parseInt(w[1 + i]) : 0);
        }
    }

    private static void putRefused() {
        checks.says("Promise 14", "BAD: also OPERANDS out of their bounds (those that a KIND has not are not looked at).");
        for (String refused : REFUSED) {
            for (String[] state : States.ALL) checks.unchanged(state, "put " + refused, BAD);
        }
        for (String taken : TAKEN) checks.due(new Run(), "put " + taken, 1);
    }

    private static void would() {
        String part = "Promise 15";
        Run x = new Run("tell num 0 5;num 1 7;add 2 0 1;most 3 0 1;add 4 3 3;");
        checks.says(part, "How many such a CHANGE would EVALUATE (what 0),");
        checks.due(x, "would 0 1 6 0 0 0", 3);
        checks.due(x, "would 0 1 5 0 0 0", 1);
        checks.due(x, "would 0 1 9 0 0 0", 4);
        checks.due(x, "would 1 5 2 0 0 0", 4);
        checks.says(part, "how many would MOVE (1),");
        checks.due(x, "would 0 1 6 0 0 1", 2);
        checks.due(x, "would 0 1 5 0 0 1", 0);
        checks.due(x, "would 0 1 9 0 0 1", 4);
        checks.due(x, "would 1 5 2 0 0 1", 4);
        checks.says(part, "be CIRCULAR then (2).");
        checks.due(x, "would 0 1 6 0 0 2", 0);
        checks.due(x, "would 1 5 2 0 0 2", 2);
        checks.due(x, "would 1 5 1 0 0 2", 1);
        checks.due(x, "would 0 6 0 29 0 2", 1);
        // Those that are CIRCULAR already are so then too; those whose circle would end are not.
        x = new Run("tell pick 9 9;add 1 2 0;add 2 1 0;");
        checks.due(x, "would 5 1 5 0 0 2", 3);
        checks.due(x, "would 9 1 5 0 0 2", 2);
        checks.due(x, "would 2 1 5 0 0 2", 1);
        x = new Run();
        for (int c = 0; c < 29; c++) x.ask("put " + c + " 2 " + (c + 1) + " 29 0");
        checks.due(x, "would 29 1 1 0 0 0", 30);
        checks.due(x, "would 29 1 1 0 0 1", 30);
        checks.due(x, "would 29 2 0 0 0 2", 30);
    }

    private static void wouldChangesNothing() {
        String part = "Promise 15";
        checks.says(part, "Nothing changes.");
        String[] some = {"0 1 9 0 0", "0 0 0 0 0", "9 1 3 0 0", "1 5 6 0 0", "29 8 9 10 11", "13 6 0 29 0", "14 0 0 0 0", "2 2 0 1 0"};
        for (String one : some) {
            for (String[] state : States.ALL) {
                for (int what = 0; what < 3; what++) {
                    String call = "would " + one + " " + what;
                    checks.unchanged(state, call, new Run(state).ask(call));
                }
                asThePutDoes(state, one);
            }
        }
        checks.says(part, "BAD.");
        for (String refused : REFUSED) {
            for (int what = 0; what < 3; what++) checks.due(new Run(), "would " + refused + " " + what, BAD);
            checks.unchanged(States.RICH, "would " + refused + " 0", BAD);
        }
        for (String what : new String[] {"-1", "3", "MIN", "MAX"}) {
            for (String[] state : States.ALL) checks.unchanged(state, "would 0 1 9 0 0 " + what, BAD);
            checks.due(new Run(), "would 30 1 9 0 0 " + what, BAD);
        }
        for (String taken : TAKEN) checks.due(new Run(), "would " + taken + " 0", 1);
    }

    private static void asThePutDoes(String[] state, String one) {
        Run done = new Run(state);
        int evaluated = done.ask("put " + one);
        Run x = new Run(state);
        checks.due(x, "would " + one + " 0", evaluated);
        checks.due(x, "would " + one + " 1", Integer.bitCount(done.ask("latest 1")));
        checks.due(x, "would " + one + " 2", done.ask("rule 3"));
    }

    private static void latest() {
        String part = "Promise 16";
        checks.says(part, "Of the latest CHANGE (by any call): which CELLS are EVALUATED (what 0), MOVE (1), are CUT (2) (bits).");
        String[] before = {"tell num 0 5;num 1 7;add 2 0 1;most 3 0 1;", "sheet 0 0 10", "lay 0 0 1", "lay 0 1 1", "lay 0 2 9",
            "lay 0 5 29", "lay 0 6 1"};
        Run x = new Run(before);
        change(x, "put 0 1 6 0 0", set(0, 2, 3), set(0, 2));
        change(x, "put 29 1 6 0 0", set(29), set(29));
        change(x, "undo", set(29), set(29));
        change(x, "undo", set(0, 2, 3), set(0, 2));
        checks.due(x, "read 0 0 0 1", 1);
        checks.row(x, "latest", set(1, 2, 3), set(1, 2, 3), 0);
        checks.due(x, "read 0 0 0 2", 2);
        checks.row(x, "latest", set(29), 0, set(29));
        // The last that storm(-1, 1) makes is CELL 29: add 29 17, which WAITS for itself; of storm(1, 1) CELL 8: mul 28 29.
        checks.due(x, "storm -1 1", 1);
        checks.row(x, "latest", set(29), set(29), 0);
        checks.due(x, "storm 1 1", 1);
        checks.row(x, "latest", set(8), set(8), 0);
        // What is no CHANGE leaves it.
        String[] others = {"would 0 1 1 0 0 0", "put 30 1 1 0 0", "read 0 0 0 0", "read 3 0 0 1", "read 0 1 0 1", "read 0 0 6 1", "keep 0",
            "storm 1 0", "back 1", "end 1", "tell num 0", "sheet 1 0 1", "lay 0 0 0"};
        for (String other : others) {
            x.ask(other);
            checks.row(x, "latest", set(8), set(8), 0);
        }
        checks.says(part, "BAD;");
        for (String what : new String[] {"-1", "3", "MIN", "MAX"}) {
            for (String[] state : States.ALL) checks.unchanged(state, "latest " + what, BAD);
        }
        checks.says(part, "NONE: there was none.");
        checks.row(new Run(), "latest", NONE, NONE, NONE);
        checks.row(new Run("put 0 1 1 0 0", "tell num 0 5;"), "latest", NONE, NONE, NONE);
        checks.row(new Run("put 0 1 1 0 0", "keep 0", "back 0"), "latest", NONE, NONE, NONE);
        checks.row(new Run("put 0 1 1 0 0", "keep 0", "undo", "back 0"), "latest", NONE, NONE, NONE);
        for (int what = 0; what < 3; what++) checks.unchanged(States.FULL_TAPE, "latest " + what, NONE);
        for (int what = 0; what < 3; what++) checks.unchanged(States.RICH, "latest " + what, new Run(States.RICH).ask("latest " + what));
    }

    private static void undo() {
        String part = "Promise 17";
        checks.says(part, "The latest CHANGE that can be undone is (a CHANGE too; it can not be undone itself): how many are EVALUATED.");
        Run x = new Run("tell num 0 5;add 1 0 0;most 2 0 3;num 3 9;");
        checks.due(x, "put 0 1 6 0 0", 3);
        checks.due(x, "put 0 8 1 2 3", 3);
        checks.due(x, "rule 7", 2);
        // 2 READS 0 and WAITS all the time: for 0 while 0 has no VALUE, else for itself.
        change(x, "undo", set(0, 1, 2), set(0, 1));
        change(x, "undo", set(0, 1, 2), set(0, 1));
        checks.due(x, "value 1", 10);
        checks.due(x, "rule 7", 0);
        checks.due(x, "undo", STATE);
        checks.due(x, "value 0", 5);
        // The undo is not undone by the next one: that is of the CHANGE ahead.
        x = new Run("put 0 1 1 0 0", "put 0 1 2 0 0", "put 0 1 3 0 0");
        for (int value = 2; value >= 0; value--) {
            checks.due(x, "undo", 1);
            checks.due(x, "value 0", value);
            checks.due(x, "rule 7", value);
        }
        checks.says(part, "STATE: there is none.");
        for (String[] state : new String[][] {States.NEW, States.FULL_TAPE, {"put 0 1 1 0 0", "undo"}, {"put 0 1 5 0 0", "text"},
            {"put 0 1 5 0 0", "keep 0", "put 1 1 1 0 0", "back 0"}, {"put 30 0 0 0 0"}, {"storm 1 21"}, {"read 0 0 0 8"}}) {
            checks.unchanged(state, "undo", STATE);
        }
    }

    private static void undoTwenty() {
        String part = "Promise 17";
        checks.says(part, "(The latest 20 by put(), storm(), read() can be,");
        Run x = new Run();
        for (int i = 1; i <= 20; i++) x.ask("put 0 1 " + i + " 0 0");
        undoAll(x, 20, 0);
        for (int i = 1; i <= 21; i++) x.ask("put 0 1 " + i + " 0 0");
        undoAll(x, 20, 1);
        for (int i = 2; i <= 41; i++) x.ask("put 0 1 " + i + " 0 0");
        undoAll(x, 20, 21);
        // The put ahead of 20 by storm() can not be undone any more, that ahead of 19 can.
        x = new Run("put 0 1 7 0 0", "storm 0 20");
        checks.due(x, "rule 7", 20);
        undoAll(x, 20, 7);
        x = new Run("put 0 1 7 0 0", "storm 0 19");
        undoAll(x, 20, 0);
        List<String> calls = new ArrayList<>(List.of("put 0 1 7 0 0", "sheet 0 1 40"));
        for (int i = 0; i < 8; i++) {
            calls.add("lay 0 " + (5 * i + 1) + " 1");
            calls.add("lay 0 " + (5 * i + 2) + " " + (100 + i));
        }
        String[] laid = calls.toArray(new String[0]);
        x = new Run(laid);
        for (int i = 0; i < 2; i++) checks.due(x, "read 0 1 0 8", 8);
        checks.due(x, "rule 7", 17);
        checks.due(x, "read 0 1 0 3", 3);
        checks.due(x, "rule 7", 20);
        undoAll(x, 20, 0);
        x = new Run(laid);
        for (int i = 0; i < 3; i++) checks.due(x, "read 0 1 0 8", 8);
        undoAll(x, 20, 103);
    }

    /** So many CHANGES are undone, no more, and CELL 0 has this VALUE then. */
    private static void undoAll(Run x, int n, int value) {
        for (int left = n; left > 0; left--) {
            checks.due(x, "rule 7", left);
            checks.some(x, "undo");
        }
        checks.due(x, "rule 7", 0);
        checks.due(x, "undo", STATE);
        checks.due(x, "value 0", value);
    }

    private static void undoOneBehindAnother() {
        String part = "Promise 17";
        checks.says(part, "one behind another: the CELL has the FORMULA that it had ahead of that one.)");
        String[] formulas = {"0 0 0 0", "8 1 2 3", "1 999 0 0", "6 4 29 0", "5 7 0 0", "3 9 8 0", "7 5 5 0", "8 29 28 27"};
        Run x = new Run();
        for (int i = 1; i < formulas.length; i++) x.ask("put 0 " + formulas[i]);
        for (int i = formulas.length - 2; i >= 0; i--) {
            checks.some(x, "undo");
            String[] w = formulas[i].split(" ");
            for (int j = 0; j < 4; j++) checks.due(x, "cell 0 " + j, Integer.parseInt(w[j]));
        }
        // 6 is undone to 5; 7, which comes then, is undone to 5 again, then 5 to what was ahead of all.
        x = new Run("put 3 1 5 0 0", "put 3 1 6 0 0", "undo", "put 3 1 7 0 0");
        checks.due(x, "undo", 1);
        checks.due(x, "value 3", 5);
        checks.due(x, "undo", 1);
        checks.due(x, "cell 3 0", 0);
        checks.due(x, "undo", STATE);
        // After 20 and one undone there is room for one more; the oldest is still there.
        x = new Run();
        for (int i = 1; i <= 20; i++) x.ask("put 0 1 " + i + " 0 0");
        x.ask("undo");
        x.ask("put 1 1 1 0 0");
        checks.due(x, "value 0", 19);
        undoAll(x, 20, 0);
        // Different CELLS by different calls, one behind another.
        x = new Run("put 8 1 4 0 0", "storm 1 1", "sheet 0 0 5", "lay 0 0 8", "lay 0 1 1", "lay 0 2 6", "read 0 0 0 1", "put 9 1 1 0 0");
        checks.due(x, "undo", 1);
        checks.due(x, "cell 9 0", 0);
        checks.due(x, "value 8", 6);
        checks.due(x, "undo", 1);
        checks.row(x, "cell 8", 4, 28, 29, 0);
        checks.due(x, "undo", 1);
        checks.row(x, "cell 8", 1, 4, 0, 0);
        checks.due(x, "undo", 1);
        checks.row(x, "cell 8", 0, 0, 0, 0);
        checks.due(x, "undo", STATE);
    }

    private static void storm() {
        String part = "Promise 18";
        checks.says(part, "By a seed, n CHANGES (1 to 20), as by put():");
        Run x = new Run("tell num 0 5;add 1 0 0;");
        // CELL 0 has none; CELL 7: most 18 19; CELL 25: sum 1 16.
        checks.due(x, "storm 0 1", 2);
        checks.row(x, "latest", set(0, 1), set(0, 1), 0);
        checks.due(x, "rule 7", 1);
        checks.due(x, "cell 0 0", 0);
        checks.due(x, "cell 7 0", 0);
        checks.due(x, "storm 0 3", 3);
        checks.row(x, "cell 7", 7, 18, 19, 0);
        checks.row(x, "cell 25", 6, 1, 16, 0);
        checks.due(x, "rule 7", 4);
        checks.row(x, "latest", set(25), 0, set(25));
        for (int n : new int[] {1, 2, 19, 20}) {
            Run y = new Run();
            checks.some(y, "storm 77 " + n);
            checks.due(y, "rule 7", n);
        }
        checks.says(part, "how many are EVALUATED, summed.");
        for (int seed : new int[] {0, 1, -1, 77, 4242, Integer.MIN_VALUE, Integer.MAX_VALUE}) {
            for (String[] state : new String[][] {States.NEW, States.RICH, States.ALL_UNDOABLE}) asPutsDo(state, seed, 20);
        }
    }

    private static void asPutsDo(String[] state, int seed, int n) {
        Run a = new Run(state);
        Run b = new Run(state);
        long s = seed & 0xFFFFFFFFL;
        int sum = 0;
        for (int i = 0; i < n; i++) {
            int[] got = new int[3];
            for (int j = 0; j < 3; j++) {
                s = (s * 1103515245L + 12345L) % 4294967296L;
                got[j] = (int) (s / 65536 % 32768);
            }
            int kind = got[0] / 32 % 9, p = got[1] % 30, q = got[1] / 32 % 30;
            boolean turned = (kind == 6 || kind == 7) && p > q;
            sum += b.ask("put " + got[0] % 30 + " " + kind + " " + (turned ? q : p) + " " + (turned ? p : q) + " " + got[2] % 30);
        }
        checks.due(a, "storm " + seed + " " + n, sum);
        for (int c = 0; c < 30; c++) {
            for (int what = 0; what < 5; what++) checks.due(a, "cell " + c + " " + what, b.ask("cell " + c + " " + what));
        }
        checks.row(a, "latest", b.ask("latest 0"), b.ask("latest 1"), b.ask("latest 2"));
        for (int i = 0; i < 21; i++) checks.due(a, "undo", b.ask("undo"));
    }

    private static void stormDraws() {
        String part = "Promise 18";
        checks.says(part, "for each, thrice the seed becomes seed times 1103515245 and 12345, bits 16 to 30 of it are got:");
        // Bit 31 is lost: seeds that differ there alone do the same.
        for (String seed : new String[] {"0", "MIN"}) drawn(seed, 0, 0, 0, 0, 0);
        for (String seed : new String[] {"-1", "MAX"}) drawn(seed, 29, 2, 29, 17, 0);
        Run x = new Run();
        checks.due(x, "storm 1 3", 3);
        checks.row(x, "cell 8", 4, 28, 29, 0);
        checks.row(x, "cell 25", 7, 1, 10, 0);
        checks.row(x, "cell 0", 8, 9, 21, 12);
        checks.says(part, "from the first the CELL (modulo 30), and the KIND (by 32, down, modulo 9);");
        drawn("35", 4, 0, 0, 0, 0);
        drawn("2", 8, 1, 17, 0, 0);
        drawn("449", 29, 4, 18, 18, 0);
        checks.says(part, "from the second P (modulo 30), Q (by 32, down, modulo 30);");
        drawn("16", 9, 2, 11, 18, 0);
        drawn("13", 0, 3, 23, 12, 0);
        drawn("27", 0, 4, 18, 8, 0);
        drawn("51", 5, 5, 0, 0, 0);
        checks.says(part, "from the third R (modulo 30);");
        drawn("12", 21, 8, 13, 23, 7);
        drawn("7", 4, 8, 26, 6, 8);
        drawn("7028", 29, 8, 29, 20, 22);
        checks.says(part, "of sum, most the lesser of P, Q is P:");
        drawn("22", 4, 6, 1, 20, 0);
        drawn("5", 25, 6, 24, 27, 0);
        drawn("184", 26, 6, 3, 3, 0);
        drawn("24", 13, 7, 0, 2, 0);
        drawn("19", 26, 7, 19, 21, 0);
        drawn("248", 24, 7, 29, 29, 0);
    }

    /** What the first CHANGE by a seed makes of its CELL, which had another FORMULA. */
    private static void drawn(String seed, int c, int kind, int p, int q, int r) {
        Run x = new Run("put " + c + " 1 998 0 0");
        checks.due(x, "storm " + seed + " 1", 1);
        checks.row(x, "cell " + c, kind, p, q, r);
        checks.due(x, "latest 0", set(c));
        checks.due(x, "rule 0", kind == 0 ? 0 : 1);
    }

    private static void stormRefused() {
        checks.says("Promise 18", "BAD.");
        for (String n : new String[] {"0", "-1", "21", "22", "MIN", "MAX"}) {
            for (String[] state : States.ALL) checks.unchanged(state, "storm 1 " + n, BAD);
        }
    }
}
