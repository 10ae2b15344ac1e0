import java.util.ArrayDeque;
import java.util.ArrayList;
import java.util.Arrays;
import java.util.Comparator;
import java.util.Deque;
import java.util.HashMap;
import java.util.LinkedHashSet;
import java.util.List;
import java.util.Map;
import java.util.Random;
import java.util.Set;
import java.util.TreeSet;

/**
 * Long runs of random calls, each answered by the class and by a model that is written from the document in
 * another way: it evaluates by recursion, reads the text by splitting it, and lets the machine find the FAULTS.
 */
public final class HeightSheetAgainstModel {
    private static final int BAD = -1, STATE = -2, FULL = -3, NONE = -4;
    private static final int RUNS = 3000, CALLS = 512;
    private static final String[] WORDS = {"", "num", "add", "sub", "mul", "pick", "sum", "most", "when"};
    private static final int[] OPERANDS = {0, 1, 2, 2, 2, 1, 2, 2, 3};

    /** What one set of FORMULAS comes to, asked CELL by CELL. */
    private static final class Solved {
        final int[][] formulas;
        final Map<Integer, Integer> values = new HashMap<>();
        final Map<Integer, Integer> heights = new HashMap<>();
        final Map<Integer, Integer> waits = new HashMap<>();
        final Map<Integer, Set<Integer>> reads = new HashMap<>();
        private final Set<Integer> open = new TreeSet<>();

        Solved(int[][] formulas) {
            this.formulas = formulas;
            for (int c = 0; c < 30; c++) solve(c);
        }

        private void solve(int c) {
            if (reads.containsKey(c) && !open.contains(c)) return;
            open.add(c);
            Set<Integer> mine = new LinkedHashSet<>();
            reads.put(c, mine);
            int[] f = formulas[c];
            Integer value = null;
            switch (f[0]) {
                case 0: value = 0; break;
                case 1: value = f[1]; break;
                case 5:
                    if (got(c, f[1])) {
                        int at = ((values.get(f[1]) % 30) + 30) % 30;
                        if (got(c, at)) value = values.get(at);
                    }
                    break;
                case 8:
                    if (got(c, f[1])) {
                        int at = values.get(f[1]) > 0 ? f[2] : f[3];
                        if (got(c, at)) value = values.get(at);
                    }
                    break;
                case 6: case 7: {
                    long sum = 0;
                    int most = Integer.MIN_VALUE;
                    boolean all = true;
                    for (int d = f[1]; d <= f[2] && all; d++) {
                        all = got(c, d);
                        if (all) {
                            sum += values.get(d);
                            most = Math.max(most, values.get(d));
                        }
                    }
                    if (all) value = f[0] == 6 ? (int) sum : most;
                    break;
                }
                default:
                    if (got(c, f[1]) && got(c, f[2])) {
                        long a = values.get(f[1]), b = values.get(f[2]);
                        value = (int) (f[0] == 2 ? a + b : f[0] == 3 ? a - b : a * b);
                    }
                    break;
            }
            open.remove(c);
            if (value != null) {
                values.put(c, value);
                int height = 0;
                for (int d : mine) height = Math.max(height, heights.get(d) + 1);
                heights.put(c, height);
            }
        }

        /** A CELL whose solving is still open waits, through those open behind it, for itself. */
        private boolean got(int c, int d) {
            reads.get(c).add(d);
            if (!open.contains(d)) solve(d);
            if (values.containsKey(d)) return true;
            waits.put(c, d);
            return false;
        }

        List<Integer> circleOf(int c) {
            List<Integer> way = new ArrayList<>();
            Integer d = c;
            while (d != null && !way.contains(d)) {
                way.add(d);
                d = waits.get(d);
            }
            return d != null && d == c ? way : List.of();
        }

        Set<Integer> needs(int c) {
            Set<Integer> all = new TreeSet<>();
            Deque<Integer> next = new ArrayDeque<>(reads.get(c));
            while (!next.isEmpty()) {
                int d = next.pop();
                if (all.add(d)) next.addAll(reads.get(d));
            }
            return all;
        }

        List<Integer> readers(int c) {
            List<Integer> all = new ArrayList<>();
            for (int d = 0; d < 30; d++) if (reads.get(d).contains(c)) all.add(d);
            return all;
        }
    }

    private static final class Model {
        int[][] formulas = new int[30][4];
        Solved solved = new Solved(formulas);
        StringBuilder tape = new StringBuilder();
        int fault;
        int torn;
        int[] latest;
        List<int[]> undo = new ArrayList<>();
        int[][][] images = new int[2][][];
        Object[] sheets = new Object[4];

        static int[][] copy(int[][] of) {
            int[][] to = new int[of.length][];
            for (int i = 0; i < of.length; i++) to[i] = of[i].clone();
            return to;
        }

        int feed(int c) {
            if (c < 0 || c > 127) return BAD;
            if (tape.length() == 320) return FULL;
            return tape.append((char) c).length();
        }

        int end(int n) {
            if (n < 0 || n > tape.length()) return BAD;
            int had = tape.length();
            tape.setLength(n);
            return had;
        }

        /** TOKENS with their places; one that is none ends the list, as "?". */
        private static void split(String text, List<String> tokens, List<Integer> places) {
            java.util.regex.Matcher m = java.util.regex.Pattern.compile("[a-z]+|[0-9]+|;|[^ ]", java.util.regex.Pattern.DOTALL)
                    .matcher(text);
            while (m.find()) {
                String t = m.group();
                boolean is = t.matches("[a-z]+|[0-9]{1,3}|;");
                tokens.add(is ? t : "?");
                places.add(m.start());
                if (!is) return;
            }
            tokens.add("");
            places.add(text.length());
        }

        int text() {
            List<String> tokens = new ArrayList<>();
            List<Integer> places = new ArrayList<>();
            split(tape.toString(), tokens, places);
            tape.setLength(0);
            int[][] all = new int[30][4];
            int lines = 0;
            int at = 0;
            while (!tokens.get(at).isEmpty()) {
                int kind = Arrays.asList(WORDS).indexOf(tokens.get(at));
                if (kind < 1) return failed(tokens.get(at), places.get(at), 2);
                int[] line = new int[5];
                line[1] = kind;
                at++;
                for (int i = 0; i <= OPERANDS[kind]; i++, at++) {
                    String t = tokens.get(at);
                    if (!t.matches("[0-9]+")) return failed(t, places.get(at), 2);
                    int n = Integer.parseInt(t);
                    boolean less = (kind == 6 || kind == 7) && i == 2 && n < line[2];
                    if (n > (kind == 1 && i == 1 ? 999 : 29) || less) return failed(t, places.get(at), 3);
                    line[i == 0 ? 0 : i + 1] = n;
                }
                if (!tokens.get(at).equals(";")) return failed(tokens.get(at), places.get(at), 2);
                at++;
                lines++;
                all[line[0]] = Arrays.copyOfRange(line, 1, 5);
            }
            fault = 0;
            images = new int[2][][];
            restart(all);
            return lines;
        }

        private int failed(String token, int place, int which) {
            fault = token.equals("?") ? 1 : which;
            return -10 - place;
        }

        private void restart(int[][] all) {
            formulas = copy(all);
            solved = new Solved(formulas);
            latest = null;
            undo.clear();
        }

        int rule(int what) {
            switch (what) {
                case 0: return told();
                case 1: return solved.values.size();
                case 2: return solved.waits.size();
                case 3: return circular(solved);
                case 4: {
                    Set<Set<Integer>> all = new java.util.HashSet<>();
                    for (int c = 0; c < 30; c++) all.add(new TreeSet<>(solved.circleOf(c)));
                    all.remove(new TreeSet<Integer>());
                    return all.size();
                }
                case 5: return solved.heights.values().stream().mapToInt(h -> h).max().orElse(0);
                case 6: return solved.reads.values().stream().mapToInt(Set::size).sum();
                case 7: return undo.size();
                default: return BAD;
            }
        }

        private int told() {
            int n = 0;
            for (int[] f : formulas) if (f[0] != 0) n++;
            return n;
        }

        private static int circular(Solved of) {
            int n = 0;
            for (int c = 0; c < 30; c++) if (!of.circleOf(c).isEmpty()) n++;
            return n;
        }

        private static boolean isCell(int c) {
            return c >= 0 && c <= 29;
        }

        int cell(int c, int what) {
            if (!isCell(c) || what < 0 || what > 8) return BAD;
            if (what < 4) return formulas[c][what];
            if (what == 4) return solved.values.containsKey(c) ? 0 : solved.circleOf(c).isEmpty() ? 1 : 2;
            if (what == 5) return solved.heights.getOrDefault(c, NONE);
            if (what == 6) return solved.waits.getOrDefault(c, NONE);
            return what == 7 ? solved.reads.get(c).size() : solved.readers(c).size();
        }

        int value(int c) {
            return solved.values.getOrDefault(c, 0);
        }

        private static int nth(List<Integer> of, int i) {
            return i < of.size() ? of.get(i) : NONE;
        }

        int reads(int c, int i) {
            return !isCell(c) || i < 0 ? BAD : nth(new ArrayList<>(solved.reads.get(c)), i);
        }

        int reader(int c, int i) {
            return !isCell(c) || i < 0 ? BAD : nth(solved.readers(c), i);
        }

        int far(int c, int what) {
            if (!isCell(c) || what < 0 || what > 1) return BAD;
            int bits = 0;
            for (int d = 0; d < 30; d++) {
                if (what == 0 ? solved.needs(c).contains(d) : solved.needs(d).contains(c)) bits |= 1 << d;
            }
            return bits;
        }

        int order(int i) {
            if (i < 0) return BAD;
            List<Integer> all = new ArrayList<>(new TreeSet<>(solved.values.keySet()));
            all.sort(Comparator.comparing(solved.heights::get));
            return nth(all, i);
        }

        int circle(int c, int i) {
            return !isCell(c) || i < 0 ? BAD : nth(solved.circleOf(c), i);
        }

        private static int[] formula(int c, int kind, int p, int q, int r) {
            if (!isCell(c) || kind < 0 || kind > 8) return null;
            int[] f = {kind, p, q, r};
            for (int i = 1; i <= 3; i++) {
                if (i > OPERANDS[kind]) f[i] = 0;
                if (f[i] < 0 || f[i] > (kind == 1 ? 999 : 29)) return null;
            }
            return (kind == 6 || kind == 7) && p > q ? null : f;
        }

        /** EVALUATED, MOVE, how many are CIRCULAR then. */
        private int[] weigh(int c, Solved then) {
            int moves = 0;
            for (int d = 0; d < 30; d++) {
                Integer a = solved.values.get(d), b = then.values.get(d);
                if (a == null ? b != null : !a.equals(b)) moves |= 1 << d;
            }
            int evaluated = 1 << c;
            for (int d = 0; d < 30; d++) {
                for (int e : solved.reads.get(d)) if ((moves >> e & 1) == 1) evaluated |= 1 << d;
            }
            return new int[] {evaluated, moves, circular(then)};
        }

        private int change(int c, int[] f) {
            int[][] all = copy(formulas);
            all[c] = f;
            Solved then = new Solved(all);
            latest = weigh(c, then);
            formulas = all;
            solved = then;
            return Integer.bitCount(latest[0]);
        }

        int put(int c, int kind, int p, int q, int r) {
            int[] f = formula(c, kind, p, q, r);
            if (f == null) return BAD;
            int[] had = formulas[c];
            undo.add(new int[] {c, had[0], had[1], had[2], had[3]});
            if (undo.size() > 20) undo.remove(0);
            return change(c, f);
        }

        int would(int c, int kind, int p, int q, int r, int what) {
            int[] f = formula(c, kind, p, q, r);
            if (f == null || what < 0 || what > 2) return BAD;
            int[][] all = copy(formulas);
            all[c] = f;
            int[] w = weigh(c, new Solved(all));
            return what == 2 ? w[2] : Integer.bitCount(w[what]);
        }

        int latest(int what) {
            if (what < 0 || what > 2) return BAD;
            if (latest == null) return NONE;
            return what == 2 ? latest[0] & ~latest[1] : latest[what];
        }

        int undo() {
            if (undo.isEmpty()) return STATE;
            int[] u = undo.remove(undo.size() - 1);
            return change(u[0], Arrays.copyOfRange(u, 1, 5));
        }

        int storm(int seed, int n) {
            if (n < 1 || n > 20) return BAD;
            long s = seed;
            int sum = 0;
            for (int i = 0; i < n; i++) {
                int[] got = new int[3];
                for (int j = 0; j < 3; j++) {
                    s = (int) (s * 1103515245L + 12345L);
                    got[j] = (int) ((s & 0x7FFFFFFFL) >> 16);
                }
                int kind = got[0] / 32 % 9, p = got[1] % 30, q = got[1] / 32 % 30;
                if ((kind == 6 || kind == 7) && q < p) {
                    int t = p;
                    p = q;
                    q = t;
                }
                sum += put(got[0] % 30, kind, p, q, got[2] % 30);
            }
            return sum;
        }

        int keep(int k) {
            if (k < 0 || k > 1) return BAD;
            int was = images[k] == null ? 0 : 1;
            images[k] = copy(formulas);
            return was;
        }

        int back(int k) {
            if (k < 0 || k > 1) return BAD;
            if (images[k] == null) return STATE;
            restart(images[k]);
            return told();
        }

        int sheet(int k, int lane, int n) {
            if (k < 0 || k > 3 || lane < 0 || lane > 2 || n > 40) return BAD;
            try {
                sheets[k] = lane == 0 ? new byte[n] : lane == 1 ? new short[n] : (Object) new int[n];
                return 1;
            } catch (NegativeArraySizeException e) {
                return -14;
            }
        }

        int lay(int k, int i, int v) {
            if (k < 0 || k > 3) return BAD;
            try {
                if (sheets[k] instanceof byte[]) ((byte[]) sheets[k])[i] = (byte) v;
                else if (sheets[k] instanceof short[]) ((short[]) sheets[k])[i] = (short) v;
                else ((int[]) sheets[k])[i] = v;
                return 1;
            } catch (NullPointerException e) {
                return -11;
            } catch (ArrayIndexOutOfBoundsException e) {
                return -12;
            }
        }

        private static int item(Object row, int lane, int i) {
            return lane == 0 ? ((byte[]) row)[i] : lane == 1 ? ((short[]) row)[i] : ((int[]) row)[i];
        }

        int read(int k, int lane, int f, int n) {
            if (k < 0 || k > 3 || lane < 0 || lane > 2 || n < 0 || n > 8) return BAD;
            int[][] formulasThen = formulas;
            Solved solvedThen = solved;
            int[] latestThen = latest;
            List<int[]> undoThen = new ArrayList<>(undo);
            int came = 0;
            int found = 0;
            try {
                for (; came < n; came++) {
                    int[] x = new int[5];
                    for (int j = 0; j < 5; j++) x[j] = item(sheets[k], lane, f + 5 * came + j);
                    if (put(x[0], x[1], x[2], x[3], x[4]) == BAD) {
                        formulas = formulasThen;
                        solved = solvedThen;
                        latest = latestThen;
                        undo = undoThen;
                        return -20 - came;
                    }
                }
            } catch (NullPointerException e) {
                found = 1;
            } catch (ArrayIndexOutOfBoundsException e) {
                found = 2;
            } catch (ClassCastException e) {
                found = 3;
            }
            torn = found;
            return came;
        }

        int count(int what) {
            switch (what) {
                case 0: return (images[0] == null ? 0 : 1) + (images[1] == null ? 0 : 1);
                case 1: return tape.length();
                case 2: return sheets[0] == null ? NONE : java.lang.reflect.Array.getLength(sheets[0]);
                case 3: return (int) Arrays.stream(formulas).filter(f -> f[0] == 6 || f[0] == 7).count();
                case 4: return solved.values.values().stream().mapToInt(v -> v).sum();
                default: return BAD;
            }
        }
    }

    /** Numbers in bounds most times, at the edges often, wild now and then. */
    private static final class Dice {
        final Random random;

        Dice(long seed) {
            random = new Random(seed);
        }

        boolean oneIn(int n) {
            return random.nextInt(n) == 0;
        }

        int from(int low, int high) {
            if (oneIn(60)) {
                int[] wild = {Integer.MIN_VALUE, Integer.MAX_VALUE, -1, low - 1, high + 1, 1000};
                return wild[random.nextInt(wild.length)];
            }
            return low + random.nextInt(high - low + 1);
        }

        int[] change(int cells) {
            int kind = from(0, 8);
            int p = kind == 1 && oneIn(2) ? from(0, 999) : from(0, cells);
            int q = from(0, cells);
            if ((kind == 6 || kind == 7) && p > q && !oneIn(10)) return new int[] {from(0, cells), kind, q, p, from(0, cells)};
            return new int[] {from(0, cells), kind, p, q, from(0, cells)};
        }

        String line(int cells) {
            int[] x = change(cells);
            StringBuilder line = new StringBuilder();
            int kind = Math.floorMod(x[1], 8) + 1;
            line.append(WORDS[kind]).append(oneIn(5) ? "" : " ").append(x[0]);
            for (int i = 0; i < OPERANDS[kind]; i++) line.append(oneIn(4) ? "  " : " ").append(x[2 + i]);
            line.append(oneIn(6) ? " ;" : ";").append(oneIn(6) ? " " : "");
            if (oneIn(25)) line.setCharAt(random.nextInt(line.length()), (char) random.nextInt(128));
            if (oneIn(40)) line.deleteCharAt(random.nextInt(line.length()));
            return line.toString();
        }
    }

    private static final class Run {
        final HeightSheet real = new HeightSheet();
        final Model model = new Model();
        final Dice dice;
        /** How many of the CELLS are in use: few make many circles, many make long ways. */
        final int cells;
        final StringBuilder log = new StringBuilder();
        int calls;
        boolean isWrong;

        Run(int number) {
            dice = new Dice(number);
            cells = new int[] {3, 7, 14, 29}[number % 4];
        }

        void same(String call, int got, int want) {
            calls++;
            log.append(call).append(" = ").append(want).append('\n');
            if (got != want) {
                isWrong = true;
                System.out.println(log.append("but answered ").append(got));
            }
        }

        void go() {
            while (calls < CALLS && !isWrong) step(dice.random.nextInt(40));
        }

        private void step(int which) {
            int c = dice.from(0, cells), i = dice.from(0, dice.oneIn(2) ? 3 : 31), k = dice.from(0, 3);
            int[] x = dice.change(cells);
            switch (which) {
                case 0: text(); break;
                case 1: same("end " + i, real.end(i), model.end(i)); break;
                case 2: rule(); break;
                case 3: case 4: cell(c); break;
                case 5: same("value " + c, real.value(c), model.value(c)); break;
                case 6: case 7: same("reads " + c + " " + i, real.reads(c, i), model.reads(c, i)); break;
                case 8: case 9: same("reader " + c + " " + i, real.reader(c, i), model.reader(c, i)); break;
                case 10: case 11: same("far " + c, real.far(c, i & 1), model.far(c, i & 1)); break;
                case 12: same("far " + c + " " + k, real.far(c, k), model.far(c, k)); break;
                case 13: case 14: same("order " + i, real.order(i), model.order(i)); break;
                case 15: case 16: same("circle " + c + " " + i, real.circle(c, i), model.circle(c, i)); break;
                case 17: case 18: case 19: would(x); break;
                case 20: undo(); break;
                case 21: storm(); break;
                case 22: keepOrBack(); break;
                case 23: sheet(k); break;
                case 24: case 25: lay(k, i); break;
                case 26: case 27: read(k); break;
                case 28: count(); break;
                case 29: feed(dice.from(0, 127)); break;
                default: put(x); break;
            }
        }

        private void feed(int b) {
            same("feed " + b, real.feed(b), model.feed(b));
        }

        private void text() {
            int lines = dice.random.nextInt(12);
            for (int n = 0; n < lines; n++) {
                for (char b : dice.line(cells).toCharArray()) feed(b);
            }
            same("text", real.text(), model.text());
            same("fault", real.fault(), model.fault);
        }

        private void rule() {
            for (int what = -1; what <= 8; what++) same("rule " + what, real.rule(what), model.rule(what));
        }

        private void cell(int c) {
            for (int what = -1; what <= 9; what++) same("cell " + c + " " + what, real.cell(c, what), model.cell(c, what));
        }

        private void put(int[] x) {
            same("put " + Arrays.toString(x), real.put(x[0], x[1], x[2], x[3], x[4]), model.put(x[0], x[1], x[2], x[3], x[4]));
            latest();
        }

        private void latest() {
            int what = dice.from(0, 2);
            same("latest " + what, real.latest(what), model.latest(what));
        }

        private void would(int[] x) {
            int what = dice.from(0, 2);
            same("would " + Arrays.toString(x) + " " + what, real.would(x[0], x[1], x[2], x[3], x[4], what),
                    model.would(x[0], x[1], x[2], x[3], x[4], what));
        }

        private void undo() {
            int times = dice.oneIn(8) ? 22 : 1 + dice.random.nextInt(3);
            for (int n = 0; n < times; n++) same("undo", real.undo(), model.undo());
            latest();
        }

        private void storm() {
            int seed = dice.random.nextInt(), n = dice.from(1, 20);
            same("storm " + seed + " " + n, real.storm(seed, n), model.storm(seed, n));
            latest();
        }

        private void keepOrBack() {
            int k = dice.from(0, 1);
            if (dice.oneIn(2)) same("keep " + k, real.keep(k), model.keep(k));
            else same("back " + k, real.back(k), model.back(k));
        }

        private void sheet(int k) {
            int lane = dice.from(0, 2), n = dice.oneIn(3) ? 40 : dice.from(0, 40);
            int got = real.sheet(k, lane, n);
            same("sheet " + k + " " + lane + " " + n, got, model.sheet(k, lane, n));
            if (got != 1) return;
            for (int at = 0; at + 5 <= n && dice.random.nextInt(8) > 0; at += 5) {
                int[] x = dice.change(cells);
                for (int j = 0; j < 5; j++) same("lay", real.lay(k, at + j, x[j]), model.lay(k, at + j, x[j]));
            }
        }

        private void lay(int k, int i) {
            int v = dice.oneIn(3) ? dice.random.nextInt() : dice.from(0, 29);
            same("lay " + k + " " + i + " " + v, real.lay(k, i, v), model.lay(k, i, v));
        }

        private int laneOf(int k) {
            if (k < 0 || k > 3 || dice.oneIn(8)) return dice.from(0, 2);
            return model.sheets[k] instanceof byte[] ? 0 : model.sheets[k] instanceof short[] ? 1 : 2;
        }

        private void read(int k) {
            int lane = laneOf(k), f = dice.oneIn(2) ? 0 : dice.from(-1, 40), n = dice.from(0, 8);
            same("read " + k + " " + lane + " " + f + " " + n, real.read(k, lane, f, n), model.read(k, lane, f, n));
            same("torn", real.torn(), model.torn);
            latest();
        }

        private void count() {
            for (int what = -1; what <= 5; what++) same("count " + what, real.count(what), model.count(what));
        }
    }

    public static void main(String[] args) {
        for (int number = 0; number < RUNS; number++) {
            Run run = new Run(number);
            run.go();
            if (run.isWrong) {
                System.out.println("run " + number + " goes another way than the model");
                System.exit(1);
            }
        }
        System.out.println(RUNS + " runs go as the model does");
    }
}
