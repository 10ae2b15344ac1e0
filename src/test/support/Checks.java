import java.util.ArrayList;
import java.util.Arrays;
import java.util.HashMap;
import java.util.List;
import java.util.Map;

/** What the tests of boundaries share: the sentence that is tested now, answers that are due, and "nothing changed". */
final class Checks {
    static final int BAD = -1, STATE = -2, FULL = -3, NONE = -4;

    private final Document document;
    private final List<String[]> probes = probes();
    private final Map<String, List<int[]>> seenBefore = new HashMap<>();
    private String sentence = "(no sentence is named yet)";
    private int wrong;
    private int asked;

    Checks(String... parts) {
        document = new Document(parts);
    }

    /** The checks that follow, till the next call, are of this sentence of the document. */
    void says(String part, String words) {
        document.name(part, words);
        sentence = part + ": \"" + words + "\"";
    }

    void due(Run x, String call, int want) {
        asked++;
        int got = x.ask(call);
        if (got != want) fail(x.trail() + " answered " + got + ", due is " + want);
    }

    /** It is not refused; how many it tells is not looked at. */
    void some(Run x, String call) {
        asked++;
        int got = x.ask(call);
        if (got < 1) fail(x.trail() + " answered " + got + ", due is 1 or more");
    }

    /** The same call with each of some numbers behind it, and the answer that is due for each. */
    void row(Run x, String call, int[] numbers, int... wants) {
        if (numbers.length != wants.length) throw new IllegalStateException(call + ": as many answers as numbers are due");
        for (int i = 0; i < numbers.length; i++) due(x, call + " " + numbers[i], wants[i]);
    }

    /** The call with 0, 1, 2 and so on behind it. */
    void row(Run x, String call, int... wants) {
        for (int i = 0; i < wants.length; i++) due(x, call + " " + i, wants[i]);
    }

    /** In a new object after each time the same calls: the last answers so, and nothing can be told apart then. */
    void unchanged(String[] before, String call, int want) {
        String key = String.join("\n", before);
        List<int[]> seen = seenBefore.computeIfAbsent(key, k -> lookAll(before, null, 0));
        List<int[]> then = lookAll(before, call, want);
        for (int i = 0; i < probes.size(); i++) compare(call, probes.get(i), seen.get(i), then.get(i));
    }

    private List<int[]> lookAll(String[] before, String call, int want) {
        List<int[]> all = new ArrayList<>();
        for (String[] probe : probes) {
            Run x = new Run(before);
            if (call != null) due(x, call, want);
            all.add(look(x, probe));
        }
        return all;
    }

    private static int[] look(Run x, String[] probe) {
        int[] answers = new int[probe.length];
        for (int i = 0; i < probe.length; i++) answers[i] = x.ask(probe[i]);
        return answers;
    }

    private void compare(String call, String[] probe, int[] seen, int[] then) {
        for (int i = 0; i < probe.length; i++) {
            if (seen[i] != then[i]) {
                fail(call + " changed something: " + probe[i] + " answered " + seen[i] + " without it, " + then[i] + " with it");
                return;
            }
        }
    }

    /** Rows of calls, each on an object of its own, by which all that an object holds can be told. */
    private static List<String[]> probes() {
        List<String[]> all = new ArrayList<>();
        all.add(lists(each("rule", 8), each("count", 5), each("latest", 3), each("value", 30), each("order", 31), "fault", "torn"));
        all.add(eachOfCells("cell", 0, 4));
        all.add(eachOfCells("cell", 4, 9));
        all.add(lists(eachOfCells("far", 0, 2), eachOfCells("circle", 0, 3)));
        all.add(eachOfCells("reads", 0, 5));
        all.add(eachOfCells("reader", 0, 5));
        all.add(undos());
        all.add(lists("back 0", eachOfCells("cell", 0, 4), "latest 0", "rule 7"));
        all.add(lists("back 1", eachOfCells("cell", 0, 4), "latest 0", "rule 7"));
        all.add(lists("text", "fault", eachOfCells("cell", 0, 4), "count 0"));
        for (int k = 0; k < 4; k++) all.add(readings(k));
        return all;
    }

    private static String[] undos() {
        List<String> calls = new ArrayList<>();
        for (int i = 0; i < 21; i++) calls.addAll(List.of("undo", "latest 0", "latest 1", "latest 2", "count 4", "rule 6", "rule 0"));
        return calls.toArray(new String[0]);
    }

    /** Whether ITEMS are there, and what they are, shows by the CHANGES that they tell. */
    private static String[] readings(int k) {
        List<String> calls = new ArrayList<>();
        for (int lane = 0; lane < 3; lane++) {
            for (int f : new int[] {0, 1, 2, 3, 4, 5, 7, 10, 15, 20, 25, 30, 35}) {
                calls.addAll(List.of("read " + k + " " + lane + " " + f + " 1", "torn", "latest 0", "count 4"));
            }
        }
        return calls.toArray(new String[0]);
    }

    private static String[] each(String name, int n) {
        String[] calls = new String[n];
        Arrays.setAll(calls, i -> name + " " + i);
        return calls;
    }

    private static String[] eachOfCells(String name, int from, int to) {
        List<String> calls = new ArrayList<>();
        for (int c = 0; c < 30; c++) {
            for (int what = from; what < to; what++) calls.add(name + " " + c + " " + what);
        }
        return calls.toArray(new String[0]);
    }

    private static String[] lists(Object... some) {
        List<String> calls = new ArrayList<>();
        for (Object one : some) {
            if (one instanceof String[] many) calls.addAll(Arrays.asList(many));
            else calls.add((String) one);
        }
        return calls.toArray(new String[0]);
    }

    private void fail(String what) {
        wrong++;
        if (wrong <= 40) System.out.println(sentence + "\n    " + what);
    }

    static int set(int... cells) {
        int bits = 0;
        for (int c : cells) bits |= 1 << c;
        return bits;
    }

    /** Ends the test: with exit code 1 if an answer was not as due or a sentence was never named. */
    void end() {
        String rest = document.unnamed();
        if (!rest.isEmpty()) System.out.println("no test names: " + rest);
        if (wrong != 0 || !rest.isEmpty()) {
            System.out.println(wrong + " answers are not as due");
            System.exit(1);
        }
        System.out.println("each sentence is named and holds, by " + asked + " answers");
    }
}
