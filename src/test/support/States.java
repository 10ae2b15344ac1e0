import java.util.ArrayList;
import java.util.List;

/** Runs of calls that bring a new object into a state in which what a refused call may spoil would show. */
final class States {
    static final String[] NEW = {};

    /** Some of all: VALUES, two circles, those that wait, both IMAGES, four SHEETS, FAULTS, a text half told, CHANGES. */
    static final String[] RICH = {
        "tell num 0 5;num 1 7;add 2 0 1;sub 3 1 0;mul 4 2 3;sum 5 0 4;most 6 0 5;pick 7 3;when 8 3 5 6;add 9 10 0;pick 10 9;",
        "keep 0", "put 0 1 6 0 0", "put 14 3 14 0 0", "keep 1", "put 12 7 0 2 0", "put 13 8 9 0 1",
        "sheet 0 2 12",
        "lay 0 0 15", "lay 0 1 2", "lay 0 3 1", "lay 0 5 16", "lay 0 6 1", "lay 0 7 999", "lay 0 10 3", "lay 0 11 1",
        "sheet 1 0 6", "lay 1 0 17", "lay 1 1 1", "lay 1 2 100", "lay 1 5 8",
        "sheet 2 1 0",
        "read 0 2 0 3", "tell num 30 1;", "put 1 1 8 0 0", "type num 3 8;add 4 3 3;"};

    /** As many CHANGES as can be undone, both IMAGES there. */
    static final String[] ALL_UNDOABLE = allUndoable();

    /** 320 bytes: 40 lines. */
    static final String[] FULL_TAPE = {"type " + fullText()};

    static final String[][] ALL = {NEW, RICH, ALL_UNDOABLE, FULL_TAPE};

    static String fullText() {
        StringBuilder text = new StringBuilder();
        for (int i = 0; i < 40; i++) text.append("num ").append(i % 10).append(' ').append(i / 10).append(';');
        return text.toString();
    }

    private static String[] allUndoable() {
        List<String> calls = new ArrayList<>(List.of("tell add 29 0 1;sum 28 0 9;", "keep 0"));
        for (int i = 0; i < 20; i++) calls.add("put " + i + " 1 " + 40 * i + " 0 0");
        calls.add("keep 1");
        calls.add("sheet 0 1 40");
        for (int i = 0; i < 8; i++) {
            calls.add("lay 0 " + 5 * i + " " + (20 + i));
            calls.add("lay 0 " + (5 * i + 1) + " 1");
            calls.add("lay 0 " + (5 * i + 2) + " " + (i + 1));
        }
        return calls.toArray(new String[0]);
    }

    private States() {
    }
}
