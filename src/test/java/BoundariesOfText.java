/** Each sentence on THE TAPE and its text, promises 2 to 5, at its boundaries. */
public final class BoundariesOfText {
    private static final int BAD = Checks.BAD, STATE = Checks.STATE, FULL = Checks.FULL, NONE = Checks.NONE;
    private static final String TAPE = "THE TAPE has", LINES = "text: {", CELLS = "the first C:", FAULTS = "FAULTS, the first met",
            TAKEN = "A text that is taken";
    private static final Checks checks =
            new Checks(TAPE, LINES, CELLS, FAULTS, TAKEN, "Promise 2", "Promise 3", "Promise 4", "Promise 5");

    public static void main(String[] args) {
        tape();
        tokens();
        lines();
        cells();
        faultsOfTokens();
        faultsOfPlace();
        faultsOfBounds();
        taken();
        feed();
        end();
        text();
        fault();
        checks.end();
    }

    /** The text is refused at a place, for a FAULT. */
    private static void refused(String text, int place, int fault) {
        Run x = new Run();
        checks.due(x, "tell " + text, -10 - place);
        checks.due(x, "fault", fault);
    }

    /** The text is taken, and a CELL has a VALUE then. */
    private static void taken(String text, int lines, int c, int value) {
        Run x = new Run();
        checks.due(x, "tell " + text, lines);
        checks.due(x, "fault", 0);
        checks.due(x, "value " + c, value);
    }

    private static void tape() {
        checks.says(TAPE, "THE TAPE has 320 bytes");
        Run x = new Run();
        checks.due(x, "type " + " ".repeat(319), 319);
        checks.due(x, "feed 32", 320);
        checks.due(x, "feed 32", FULL);
        checks.due(x, "count 1", 320);
        taken(" ".repeat(312) + "num 0 5;", 1, 0, 5);
        taken(States.fullText(), 40, 9, 3);
        checks.says(TAPE, "places from 0");
        refused("!", 0, 1);
        refused(" !", 1, 1);
        refused(" ".repeat(319) + "!", 319, 1);
    }

    private static void tokens() {
        checks.says(TAPE, "TOKENS, each as long as may be");
        refused("numb 0 5;", 0, 2);
        refused("numnum 0 5;", 0, 2);
        refused("num 0 5;addsub 0 1 2;", 8, 2);
        taken("num 0 12;", 1, 0, 12);
        refused("num 01;", 6, 2);
        refused("num 0 1 2;", 8, 2);
        checks.says(TAPE, "blanks (32) between");
        taken("   num   7   8   ;   ", 1, 7, 8);
        taken("num7 8;num8 9;", 2, 8, 9);
        refused("nu m 0 5;", 0, 2);
        for (int other : new int[] {0, 9, 10, 13, 31, 33, 127}) {
            refused("num" + (char) other + "0 5;", 3, 1);
            refused("num 0 5;" + (char) other, 8, 1);
        }
        checks.says(TAPE, "NAMES (a .. z)");
        for (char other : new char[] {'`', '{', 'A', 'Z', '@', '[', '_'}) refused(other + " 0 5;", 0, 1);
        refused("a", 0, 2);
        refused("z", 0, 2);
        refused("num 0 5;Num 0 5;", 8, 1);
        refused("nuM 0 5;", 0, 2);
        refused("num 0 a", 6, 2);
        refused("num 0 z", 6, 2);
        checks.says(TAPE, "NUMBERS (1 to 3 figures)");
        for (char other : new char[] {'/', ':', '-', '+', '.'}) refused("num 0 " + other + "5;", 6, 1);
        taken("num 0 0;", 1, 0, 0);
        taken("num 0 9;", 1, 0, 9);
        taken("num 0 10;", 1, 0, 10);
        taken("num 0 99;", 1, 0, 99);
        taken("num 0 100;", 1, 0, 100);
        taken("num 0 999;", 1, 0, 999);
        taken("num 009 008;", 1, 9, 8);
        refused("num 0 1000;", 6, 1);
        refused("num 0 0008;", 6, 1);
        refused("num 0009 8;", 4, 1);
        checks.says(TAPE, "one ;");
        refused(";", 0, 2);
        refused("num 0 5;;", 8, 2);
        refused("num 0 5,", 7, 1);
        refused("num 0 5<", 7, 1);
    }

    private static void lines() {
        checks.says(LINES, "text: { line }");
        taken("", 0, 0, 0);
        taken(" ", 0, 0, 0);
        taken("num 0 5;", 1, 0, 5);
        taken("num 0 5;num 1 6;", 2, 1, 6);
        checks.says(LINES, "line: num C N ;");
        taken("num 29 999;", 1, 29, 999);
        refused("num 0;", 5, 2);
        refused("num 0 1 2;", 8, 2);
        checks.says(LINES, "| K C C C ;");
        checks.says(LINES, "K: add | sub | mul | sum | most");
        int[] kinds = {2, 3, 4, 6, 7};
        String[] words = {"add", "sub", "mul", "sum", "most"};
        for (int i = 0; i < kinds.length; i++) {
            int behind = words[i].length();
            Run x = new Run("tell " + words[i] + " 27 28 29;");
            checks.row(x, "cell 27", kinds[i], 28, 29, 0);
            refused(words[i] + " 0 1;", behind + 4, 2);
            refused(words[i] + " 0 1 2 3;", behind + 7, 2);
        }
        checks.says(LINES, "| pick C C ;");
        checks.row(new Run("tell pick 28 29;"), "cell 28", 5, 29, 0, 0);
        refused("pick 0;", 6, 2);
        refused("pick 0 1 2;", 9, 2);
        checks.says(LINES, "| when C C C C ;");
        checks.row(new Run("tell when 26 27 28 29;"), "cell 26", 8, 27, 28, 29);
        refused("when 0 1 2;", 10, 2);
        refused("when 0 1 2 3 4;", 13, 2);
    }

    private static void cells() {
        checks.says(CELLS, "the first C: the CELL whose FORMULA it is; then its OPERANDS.");
        Run x = new Run("tell sub 3 1 2;");
        checks.row(x, "cell 3", 3, 1, 2, 0);
        checks.due(x, "rule 0", 1);
        checks.says(CELLS, "C: 0 to 29.");
        taken("num 0 1;num 29 2;", 2, 29, 2);
        checks.row(new Run("tell add 0 0 0;"), "cell 0", 2, 0, 0, 0);
        checks.row(new Run("tell sum 29 0 29;"), "cell 29", 6, 0, 29, 0);
        checks.row(new Run("tell when 29 29 29 29;"), "cell 29", 8, 29, 29, 29);
        for (String far : new String[] {"30", "31", "999"}) {
            refused("num " + far + " 1;", 4, 3);
            refused("pick 0 " + far + ";", 7, 3);
            refused("mul 0 " + far + " 0;", 6, 3);
            refused("mul 0 0 " + far + ";", 8, 3);
            refused("when 0 " + far + " 0 0;", 7, 3);
            refused("when 0 0 " + far + " 0;", 9, 3);
            refused("when 0 0 0 " + far + ";", 11, 3);
        }
        checks.says(CELLS, "(What is told twice of one CELL: the latter holds.)");
        taken("num 4 1;num 4 2;", 2, 4, 2);
        x = new Run();
        checks.due(x, "tell when 4 1 2 3;num 5 1;pick 4 6;", 3);
        checks.row(x, "cell 4", 5, 6, 0, 0);
        checks.due(x, "rule 0", 2);
    }

    private static void faultsOfTokens() {
        checks.says(FAULTS, "FAULTS, the first met as it is read (a TOKEN is read when the one before has been taken):");
        refused("num 30 !", 4, 3);
        refused("num 30 1000;", 4, 3);
        refused("foo !", 0, 2);
        refused("foo 1000", 0, 2);
        refused("add 0 30 30;", 6, 3);
        refused("sum 0 9 8 !", 8, 3);
        refused("num 0 !;foo", 6, 1);
        refused("num 0 5;foo;num 30 1;", 8, 2);
        refused("num 0 5 6 7", 8, 2);
        checks.says(FAULTS, "1 no TOKEN, a NUMBER that is too long (its first byte).");
        refused("!", 0, 1);
        refused("  !", 2, 1);
        refused("num!0 5;", 3, 1);
        refused("num 0!5;", 5, 1);
        refused("num 0 5!", 7, 1);
        refused("num 0 5;!", 8, 1);
        refused("num 0   1000;", 8, 1);
        refused("num 0 4294967297;", 6, 1);
        refused("num 0 " + "9".repeat(300) + ";", 6, 1);
        // It can not stand there either, but is met as no TOKEN first.
        refused("1000", 0, 1);
        refused("num 0 5 1000;", 8, 1);
        refused("num 0 5;1000", 8, 1);
    }

    private static void faultsOfPlace() {
        checks.says(FAULTS, "2 a TOKEN that can not stand there (a NAME that begins no line;");
        for (String other : new String[] {"n", "nu", "ad", "adds", "su", "sums", "mos", "mosts", "pic", "picks", "whe", "whens",
            "none", "muls", "subs", "nums", "x"}) {
            refused(other + " 0 1 2;", 0, 2);
            refused("num 0 5; " + other, 9, 2);
        }
        refused("5;", 0, 2);
        refused("num num 5;", 4, 2);
        refused("num ;", 4, 2);
        refused("num 0 num;", 6, 2);
        refused("num 0 ;", 6, 2);
        refused("num 0 5 num 1 6;", 8, 2);
        checks.says(FAULTS, "or the end: the length).");
        refused("num", 3, 2);
        refused("num 0", 5, 2);
        refused("num 0 5", 7, 2);
        refused("num 0 5   ", 10, 2);
        refused("num 0 5;when", 12, 2);
        refused(" ".repeat(313) + "num 0 5", 320, 2);
        refused("num" + " ".repeat(317), 320, 2);
    }

    private static void faultsOfBounds() {
        checks.says(FAULTS, "3 a NUMBER out of its bounds");
        refused("num 30 5;", 4, 3);
        refused("num 030 5;", 4, 3);
        taken("num 029 5;", 1, 29, 5);
        refused("pick 29 30;", 8, 3);
        taken("num 0 999;", 1, 0, 999);
        checks.says(FAULTS, "(of sum, most also a Q that is less than P).");
        for (String span : new String[] {"sum ", "most "}) {
            int at = span.length();
            refused(span + "0 1 0;", at + 4, 3);
            refused(span + "0 29 28;", at + 5, 3);
            refused(span + "0 30 29;", at + 2, 3);
            taken(span + "0 29 29;", 1, 0, 0);
            taken(span + "29 0 1;num 1 5;", 2, 29, 5);
        }
        taken("sub 0 3 2;num 3 1;", 2, 0, 1);
        taken("add 0 3 2;mul 1 3 2;when 4 9 8 7;", 3, 0, 0);
    }

    private static void taken() {
        checks.says(TAKEN, "A text that is taken tells all CELLS, in place of what there was (those not told have none);");
        Run x = new Run(States.RICH);
        checks.due(x, "text", 2);
        for (int c = 0; c < 30; c++) checks.due(x, "cell " + c + " 0", c == 3 ? 1 : c == 4 ? 2 : 0);
        checks.due(x, "rule 3", 0);
        checks.due(x, "value 4", 16);
        x = new Run("put 0 8 1 2 3", "text");
        checks.row(x, "cell 0", 0, 0, 0, 0);
        for (String[] state : new String[][] {States.RICH, States.ALL_UNDOABLE, States.NEW}) {
            checks.says(TAKEN, "there was no CHANGE, there is nothing to undo;");
            x = new Run(state);
            checks.due(x, "end 0", state == States.RICH ? 18 : 0);
            checks.due(x, "text", 0);
            checks.row(x, "latest", NONE, NONE, NONE);
            checks.due(x, "rule 7", 0);
            checks.due(x, "undo", STATE);
            checks.says(TAKEN, "IMAGES are gone.");
            checks.due(x, "count 0", 0);
            checks.due(x, "back 0", STATE);
            checks.due(x, "back 1", STATE);
            checks.due(x, "keep 1", 0);
        }
    }

    private static void feed() {
        checks.says("Promise 2", "A byte (0 to 127) comes behind THE TAPE: how many it has.");
        for (int b = 0; b <= 127; b++) checks.due(new Run("feed 32"), "feed " + b, 2);
        Run x = new Run();
        checks.row(x, "feed", new int[] {'n', 'u', 'm', '1', ' ', '2', ';'}, 1, 2, 3, 4, 5, 6, 7);
        checks.due(x, "text", 1);
        checks.due(x, "value 1", 2);
        checks.due(x, "feed 0", 1);
        checks.says("Promise 2", "BAD;");
        for (String b : new String[] {"-1", "128", "256", "MIN", "MAX"}) {
            for (String[] state : States.ALL) checks.unchanged(state, "feed " + b, BAD);
        }
        checks.says("Promise 2", "FULL: more than 320.");
        for (int b : new int[] {0, '!', ';', 127}) checks.unchanged(States.FULL_TAPE, "feed " + b, FULL);
        x = new Run(States.FULL_TAPE);
        checks.due(x, "feed 32", FULL);
        checks.due(x, "end 319", 320);
        checks.due(x, "feed 59", 320);
        checks.due(x, "feed 59", FULL);
        checks.due(x, "text", 40);
        checks.due(x, "feed 59", 1);
    }

    private static void end() {
        checks.says("Promise 3", "THE TAPE keeps its first n bytes: how many it had.");
        Run x = new Run();
        checks.due(x, "end 0", 0);
        checks.due(x, "type num 0 57;", 9);
        checks.due(x, "end 9", 9);
        checks.due(x, "end 7", 9);
        checks.due(x, "end 7", 7);
        checks.due(x, "count 1", 7);
        checks.due(x, "feed 59", 8);
        checks.due(x, "text", 1);
        checks.due(x, "value 0", 5);
        checks.due(x, "type num", 3);
        checks.due(x, "end 0", 3);
        checks.due(x, "end 0", 0);
        checks.due(x, "text", 0);
        x = new Run(States.FULL_TAPE);
        checks.due(x, "end 320", 320);
        checks.due(x, "end 8", 320);
        checks.due(x, "text", 1);
        checks.due(new Run("type num 0 5", "end 6"), "text", -16);
        checks.due(new Run("type num 0 15;", "end 7"), "text", -17);
        checks.due(new Run("type numb", "end 3"), "text", -13);
        checks.says("Promise 3", "BAD.");
        for (String n : new String[] {"-1", "-320", "321", "MIN", "MAX"}) {
            for (String[] state : States.ALL) checks.unchanged(state, "end " + n, BAD);
        }
        checks.unchanged(States.NEW, "end 1", BAD);
        checks.unchanged(States.RICH, "end 19", BAD);
        checks.unchanged(States.RICH, "end 320", BAD);
        checks.unchanged(States.RICH, "end 18", 18);
    }

    private static void text() {
        checks.says("Promise 4", "THE TAPE (empty then) tells all: how many lines;");
        Run x = new Run();
        checks.due(x, "text", 0);
        checks.due(x, "tell num 0 5;", 1);
        checks.due(x, "count 1", 0);
        checks.due(x, "text", 0);
        checks.due(x, "rule 0", 0);
        checks.due(new Run(States.FULL_TAPE), "text", 40);
        checks.says("Promise 4", "-10 less the place of its FAULT:");
        x = new Run();
        checks.due(x, "tell foo", -10);
        checks.due(x, "count 1", 0);
        checks.due(x, "text", 0);
        checks.due(x, "tell num 0 5", -17);
        checks.due(x, "count 1", 0);
        checks.due(x, "feed 59", 1);
        checks.due(x, "text", -10);
        checks.due(new Run("type " + " ".repeat(319) + "5"), "text", -329);
        checks.due(new Run("type " + " ".repeat(317) + "num"), "text", -330);
        checks.says("Promise 4", "that which was told stays.");
        String[] refusals = {"!", "num 0 1;num 1 2;foo", "num 0 1;num 30", "num 0 1;num 1 1", "sum 0 1 0;", "when 2 3 4", "num 9 9000;"};
        for (String text : refusals) staysAfter(text);
    }

    /** FAULT and THE TAPE are told anew by a refused text; so both are made alike ahead of what is compared. */
    private static void staysAfter(String text) {
        for (String[] state : new String[][] {States.NEW, States.RICH, States.ALL_UNDOABLE}) {
            String[] before = java.util.Arrays.copyOf(state, state.length + 2);
            before[state.length] = "end 0";
            before[state.length + 1] = "tell !";
            int place = new Run().ask("tell " + text);
            Run x = new Run(before);
            checks.due(x, "tell " + text, place);
            int fault = x.ask("fault");
            checks.unchanged(faultFirst(before, fault), "tell " + text, place);
        }
    }

    private static String[] faultFirst(String[] before, int fault) {
        String[] texts = {"", "!", "foo", "num 30"};
        String[] made = before.clone();
        made[made.length - 1] = "tell " + texts[fault];
        return made;
    }

    private static void fault() {
        checks.says("Promise 5", "The FAULT of the latest text(); 0.");
        Run x = new Run();
        checks.due(x, "fault", 0);
        checks.due(x, "tell !", -10);
        checks.due(x, "fault", 1);
        checks.due(x, "fault", 1);
        checks.due(x, "feed 128", BAD);
        checks.due(x, "feed 33", 1);
        checks.due(x, "fault", 1);
        checks.due(x, "end 0", 1);
        checks.due(x, "fault", 1);
        checks.due(x, "put 0 1 1 0 0", 1);
        checks.due(x, "keep 0", 0);
        checks.due(x, "back 0", 1);
        checks.due(x, "fault", 1);
        checks.due(x, "tell ;", -10);
        checks.due(x, "fault", 2);
        checks.due(x, "tell num 30", -14);
        checks.due(x, "fault", 3);
        checks.due(x, "text", 0);
        checks.due(x, "fault", 0);
        checks.due(x, "tell foo", -10);
        checks.due(x, "fault", 2);
        checks.due(x, "tell num 1 1;", 1);
        checks.due(x, "fault", 0);
        checks.unchanged(States.RICH, "fault", 3);
    }
}
