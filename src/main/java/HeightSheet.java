import java.util.Arrays;

/** A calculation sheet of 30 CELLS; the words in capitals are those of the document, DOC.md. */
public final class HeightSheet {
    public static final int BAD = -1, STATE = -2, FULL = -3, NONE = -4;

    private static final int CELLS = 30;
    private static final int IMAGES = 2;
    private static final int SHEETS = 4;
    private static final int LANES = 3;
    private static final int ITEMS = 40;
    private static final int TAPE_BYTES = 320;
    private static final int LAST_BYTE = 127;
    private static final int LARGEST_NUM = 999;
    private static final int UNDOABLE = 20;
    private static final int STORM_CHANGES = 20;
    private static final int READ_CHANGES = 8;

    private static final int KIND_NONE = 0, KIND_NUM = 1, KIND_ADD = 2, KIND_SUB = 3, KIND_MUL = 4,
            KIND_PICK = 5, KIND_SUM = 6, KIND_MOST = 7, KIND_WHEN = 8, KINDS = 9;
    private static final int[] OPERANDS = {0, 1, 2, 2, 2, 1, 2, 2, 3};

    private static final int PART_KIND = 0, PART_P = 1, PART_Q = 2, PART_R = 3, PARTS = 4;
    /** CELL, KIND, P, Q, R: what one CHANGE is told by. */
    private static final int CHANGE_ITEMS = 5;

    private static final int FAULT_NO_TOKEN = 1, FAULT_MISPLACED = 2, FAULT_OUT_OF_BOUNDS = 3;
    private static final int MACHINE_NULL = 1, MACHINE_INDEX = 2, MACHINE_CAST = 3, MACHINE_SIZE = 4;
    /** Answers that carry a place or a FAULT begin here, below all named ones. */
    private static final int FAULT_BASE = -10;
    private static final int REFUSED_BASE = -20;

    private final Tape tape = new Tape();
    private final TextReader reading = new TextReader();
    private final Formulas formulas = new Formulas();
    private Reckoning now = new Reckoning();
    private Reckoning next = new Reckoning();
    private final Change asked = new Change();
    private final Change former = new Change();
    private final History history = new History();
    private final Formulas[] images = new Formulas[IMAGES];
    private final boolean[] isKept = new boolean[IMAGES];
    private final Row[] rows = new Row[SHEETS];
    private boolean wasChanged;
    private int evaluated;
    private int moved;
    private int tornBy;

    public HeightSheet() {
        for (int k = 0; k < IMAGES; k++) {
            images[k] = new Formulas();
        }
        for (int k = 0; k < SHEETS; k++) {
            rows[k] = new Row();
        }
        now.reckon(formulas);
    }

    // ---- the text

    public int feed(int c) {
        if (c < 0 || c > LAST_BYTE) {
            return BAD;
        }
        if (tape.size >= TAPE_BYTES) {
            return FULL;
        }
        tape.append(c);
        return tape.size;
    }

    public int end(int n) {
        if (n < 0 || n > tape.size) {
            return BAD;
        }
        int had = tape.size;
        tape.size = n;
        return had;
    }

    public int text() {
        boolean taken = reading.takesAll(tape);
        tape.size = 0;
        if (!taken) {
            return FAULT_BASE - tape.start;
        }
        for (int k = 0; k < IMAGES; k++) {
            isKept[k] = false;
        }
        beginWith(reading.draft);
        return reading.lines;
    }

    public int fault() {
        return reading.fault;
    }

    // ---- what there is

    public int rule(int what) {
        switch (what) {
            case 0:
                return formulas.countTold();
            case 1:
                return Integer.bitCount(now.known);
            case 2:
                return CELLS - Integer.bitCount(now.known);
            case 3:
                return Integer.bitCount(now.circular);
            case 4:
                return now.circles;
            case 5:
                return now.greatestHeight();
            case 6:
                return now.countReads();
            case 7:
                return history.size;
            default:
                return BAD;
        }
    }

    public int cell(int c, int what) {
        if (!isCell(c)) {
            return BAD;
        }
        switch (what) {
            case PART_KIND:
            case PART_P:
            case PART_Q:
            case PART_R:
                return formulas.part(c, what);
            case 4:
                return now.standing(c);
            case 5:
                return has(now.known, c) ? now.heights[c] : NONE;
            case 6:
                return now.waitsFor[c];
            case 7:
                return Integer.bitCount(now.readBits[c]);
            case 8:
                return Integer.bitCount(now.readersOf(bit(c)));
            default:
                return BAD;
        }
    }

    public int value(int c) {
        return isCell(c) && has(now.known, c) ? now.values[c] : 0;
    }

    public int reads(int c, int i) {
        if (!isCell(c) || i < 0) {
            return BAD;
        }
        int bits = now.readBits[c];
        if (bits == 0) {
            return NONE;
        }
        // Every KIND that READS at all READS P first; what follows it is one CELL or a span upwards.
        int first = formulas.part(c, PART_P);
        return i == 0 ? first : nthOf(bits & ~bit(first), i - 1);
    }

    public int reader(int c, int i) {
        if (!isCell(c) || i < 0) {
            return BAD;
        }
        return nthOf(now.readersOf(bit(c)), i);
    }

    public int far(int c, int what) {
        if (!isCell(c) || what < 0 || what > 1) {
            return BAD;
        }
        return what == 0 ? now.neededBy(c) : now.hangingOn(c);
    }

    public int order(int i) {
        return i < 0 ? BAD : now.nthByHeight(i);
    }

    public int circle(int c, int i) {
        if (!isCell(c) || i < 0) {
            return BAD;
        }
        return now.nthOfCircle(c, i);
    }

    // ---- changes

    public int put(int c, int kind, int p, int q, int r) {
        asked.tell(c, kind, p, q, r);
        if (!asked.isAllowed()) {
            return BAD;
        }
        remember();
        return make();
    }

    public int would(int c, int kind, int p, int q, int r, int what) {
        asked.tell(c, kind, p, q, r);
        if (!asked.isAllowed() || what < 0 || what > 2) {
            return BAD;
        }
        former.tellAsIn(formulas, c);
        formulas.take(asked);
        next.reckon(formulas);
        formulas.take(former);
        if (what == 2) {
            return Integer.bitCount(next.circular);
        }
        int moving = now.movedTo(next);
        return Integer.bitCount(what == 1 ? moving : now.readersOf(moving) | bit(c));
    }

    public int latest(int what) {
        if (what < 0 || what > 2) {
            return BAD;
        }
        if (!wasChanged) {
            return NONE;
        }
        if (what == 0) {
            return evaluated;
        }
        return what == 1 ? moved : evaluated & ~moved;
    }

    public int undo() {
        if (history.size == 0) {
            return STATE;
        }
        history.popInto(asked);
        return make();
    }

    public int storm(int seed, int n) {
        if (n < 1 || n > STORM_CHANGES) {
            return BAD;
        }
        int state = seed;
        int sum = 0;
        for (int i = 0; i < n; i++) {
            state = stir(state);
            int first = drawn(state);
            state = stir(state);
            int second = drawn(state);
            state = stir(state);
            askByDraws(first, second, drawn(state));
            remember();
            sum += make();
        }
        return sum;
    }

    // ---- images, sheets

    public int keep(int k) {
        if (k < 0 || k >= IMAGES) {
            return BAD;
        }
        int was = isKept[k] ? 1 : 0;
        images[k].become(formulas);
        isKept[k] = true;
        return was;
    }

    public int back(int k) {
        if (k < 0 || k >= IMAGES) {
            return BAD;
        }
        if (!isKept[k]) {
            return STATE;
        }
        beginWith(images[k]);
        return formulas.countTold();
    }

    public int sheet(int k, int lane, int n) {
        if (k < 0 || k >= SHEETS || lane < 0 || lane >= LANES || n > ITEMS) {
            return BAD;
        }
        if (n < 0) {
            return FAULT_BASE - MACHINE_SIZE;
        }
        rows[k].renew(lane, n);
        return 1;
    }

    public int lay(int k, int i, int v) {
        if (k < 0 || k >= SHEETS) {
            return BAD;
        }
        int found = rows[k].faultAt(rows[k].lane, i);
        if (found != 0) {
            return FAULT_BASE - found;
        }
        rows[k].set(i, v);
        return 1;
    }

    public int read(int k, int lane, int f, int n) {
        if (k < 0 || k >= SHEETS || lane < 0 || lane >= LANES || n < 0 || n > READ_CHANGES) {
            return BAD;
        }
        // All are looked at before the first is made, so that a refusal has nothing to take back.
        int whole = 0;
        int found = 0;
        while (whole < n && found == 0) {
            found = rows[k].faultOfChange(lane, f + CHANGE_ITEMS * whole);
            if (found == 0) {
                rows[k].askFrom(f + CHANGE_ITEMS * whole, asked);
                if (!asked.isAllowed()) {
                    return REFUSED_BASE - whole;
                }
                whole++;
            }
        }
        for (int i = 0; i < whole; i++) {
            rows[k].askFrom(f + CHANGE_ITEMS * i, asked);
            remember();
            make();
        }
        tornBy = found;
        return whole;
    }

    public int torn() {
        return tornBy;
    }

    public int count(int what) {
        switch (what) {
            case 0:
                return countImages();
            case 1:
                return tape.size;
            case 2:
                return rows[0].isNothing() ? NONE : rows[0].size;
            case 3:
                return formulas.countSpans();
            case 4:
                return now.sumOfValues();
            default:
                return BAD;
        }
    }

    // ---- what the calls share

    private void beginWith(Formulas all) {
        formulas.become(all);
        now.reckon(formulas);
        history.clear();
        wasChanged = false;
    }

    /** Lets the CHANGE that is asked for be undone; to be called ahead of make(). */
    private void remember() {
        former.tellAsIn(formulas, asked.cell);
        history.push(former);
    }

    /** Makes the CHANGE that is asked for, which is allowed: how many are EVALUATED. */
    private int make() {
        formulas.take(asked);
        next.reckon(formulas);
        moved = now.movedTo(next);
        // Who READ what MOVES is asked of the READS ahead of the CHANGE, so before the two are swapped.
        evaluated = now.readersOf(moved) | bit(asked.cell);
        Reckoning ahead = now;
        now = next;
        next = ahead;
        wasChanged = true;
        return Integer.bitCount(evaluated);
    }

    private void askByDraws(int first, int second, int third) {
        int kind = first / 32 % KINDS;
        int p = second % CELLS;
        int q = second / 32 % CELLS;
        if (isSpan(kind)) {
            asked.tell(first % CELLS, kind, Math.min(p, q), Math.max(p, q), 0);
        } else {
            asked.tell(first % CELLS, kind, p, q, third % CELLS);
        }
    }

    private int countImages() {
        int kept = 0;
        for (int k = 0; k < IMAGES; k++) {
            kept += isKept[k] ? 1 : 0;
        }
        return kept;
    }

    private static int stir(int state) {
        return state * 1103515245 + 12345;
    }

    private static int drawn(int state) {
        return state >>> 16 & 0x7FFF;
    }

    private static boolean isCell(int c) {
        return c >= 0 && c < CELLS;
    }

    private static boolean isSpan(int kind) {
        return kind == KIND_SUM || kind == KIND_MOST;
    }

    private static int operandsOf(int kind) {
        return kind >= 0 && kind < KINDS ? OPERANDS[kind] : 0;
    }

    private static int bit(int c) {
        return 1 << c;
    }

    private static boolean has(int bits, int c) {
        return (bits >>> c & 1) != 0;
    }

    /** The i-th CELL (0 on, upwards) of a set; NONE: there are not so many. */
    private static int nthOf(int bits, int i) {
        int seen = 0;
        for (int c = 0; c < CELLS; c++) {
            if (has(bits, c)) {
                if (seen == i) {
                    return c;
                }
                seen++;
            }
        }
        return NONE;
    }

    /** A CELL and the FORMULA that it is to have: one object is told anew for each, so that none is made. */
    private static final class Change {
        private int cell;
        private int kind;
        private int p;
        private int q;
        private int r;

        private void tell(int newCell, int newKind, int newP, int newQ, int newR) {
            cell = newCell;
            kind = newKind;
            p = newP;
            q = newQ;
            r = newR;
        }

        private void tellAsIn(Formulas all, int c) {
            tell(c, all.part(c, PART_KIND), all.part(c, PART_P), all.part(c, PART_Q), all.part(c, PART_R));
        }

        private boolean isAllowed() {
            return isCell(cell) && kind >= 0 && kind < KINDS && operandsFit();
        }

        private boolean operandsFit() {
            if (kind == KIND_NUM) {
                return p >= 0 && p <= LARGEST_NUM;
            }
            int n = operandsOf(kind);
            boolean fit = (n < 1 || isCell(p)) && (n < 2 || isCell(q)) && (n < 3 || isCell(r));
            return fit && (!isSpan(kind) || p <= q);
        }
    }

    /** The FORMULAS of all CELLS; OPERANDS are tested before they come here, so those that are CELLS may be indices. */
    private static final class Formulas {
        private final int[] parts = new int[CELLS * PARTS];

        private int part(int c, int which) {
            return parts[c * PARTS + which];
        }

        private void clear() {
            Arrays.fill(parts, 0);
        }

        private void become(Formulas other) {
            System.arraycopy(other.parts, 0, parts, 0, parts.length);
        }

        /** The OPERANDS become 0: those that the KIND has not are to stay so. */
        private void begin(int c, int kind) {
            parts[c * PARTS + PART_KIND] = kind;
            parts[c * PARTS + PART_P] = 0;
            parts[c * PARTS + PART_Q] = 0;
            parts[c * PARTS + PART_R] = 0;
        }

        private void setOperand(int c, int which, int operand) {
            parts[c * PARTS + which] = operand;
        }

        private void take(Change change) {
            int n = operandsOf(change.kind);
            begin(change.cell, change.kind);
            if (n >= PART_P) {
                setOperand(change.cell, PART_P, change.p);
            }
            if (n >= PART_Q) {
                setOperand(change.cell, PART_Q, change.q);
            }
            if (n >= PART_R) {
                setOperand(change.cell, PART_R, change.r);
            }
        }

        private int countTold() {
            int told = 0;
            for (int c = 0; c < CELLS; c++) {
                told += part(c, PART_KIND) != KIND_NONE ? 1 : 0;
            }
            return told;
        }

        private int countSpans() {
            int spans = 0;
            for (int c = 0; c < CELLS; c++) {
                spans += isSpan(part(c, PART_KIND)) ? 1 : 0;
            }
            return spans;
        }
    }

    /** What FORMULAS come to: VALUES, HEIGHTS, READS, who WAITS for whom. Sets of CELLS are bits. */
    private static final class Reckoning {
        private final int[] values = new int[CELLS];
        private final int[] heights = new int[CELLS];
        private final int[] readBits = new int[CELLS];
        private final int[] waitsFor = new int[CELLS];
        private int known;
        private int circular;
        private int circles;

        private void reckon(Formulas all) {
            Arrays.fill(heights, 0);
            Arrays.fill(readBits, 0);
            known = 0;
            boolean isMore = true;
            // A round that settles none is the last, and it has seen all that WAIT as they stay.
            for (int round = 0; isMore && round <= CELLS; round++) {
                int ahead = known;
                for (int c = 0; c < CELLS; c++) {
                    if (!has(known, c)) {
                        tryCell(all, c);
                    }
                }
                isMore = known != ahead;
            }
            findCircles();
        }

        private void tryCell(Formulas all, int c) {
            int kind = all.part(c, PART_KIND);
            int p = all.part(c, PART_P);
            switch (kind) {
                case KIND_NONE:
                case KIND_NUM:
                    settle(c, p);
                    break;
                case KIND_PICK:
                    if (takes(c, p)) {
                        settleAs(c, Math.floorMod(values[p], CELLS));
                    }
                    break;
                case KIND_WHEN:
                    if (takes(c, p)) {
                        settleAs(c, all.part(c, values[p] > 0 ? PART_Q : PART_R));
                    }
                    break;
                case KIND_SUM:
                case KIND_MOST:
                    trySpan(kind, c, p, all.part(c, PART_Q));
                    break;
                default:
                    tryTwo(kind, c, p, all.part(c, PART_Q));
                    break;
            }
        }

        private void tryTwo(int kind, int c, int p, int q) {
            if (!takes(c, p) || !takes(c, q)) {
                return;
            }
            if (kind == KIND_ADD) {
                settle(c, values[p] + values[q]);
            } else if (kind == KIND_SUB) {
                settle(c, values[p] - values[q]);
            } else {
                settle(c, values[p] * values[q]);
            }
        }

        private void trySpan(int kind, int c, int p, int q) {
            int sum = 0;
            int most = Integer.MIN_VALUE;
            for (int d = p; d <= q; d++) {
                if (!takes(c, d)) {
                    return;
                }
                sum += values[d];
                most = Math.max(most, values[d]);
            }
            settle(c, kind == KIND_SUM ? sum : most);
        }

        /** Whether d, which c READS now, has a VALUE; if not, c WAITS for it. */
        private boolean takes(int c, int d) {
            readBits[c] |= bit(d);
            if (!has(known, d)) {
                waitsFor[c] = d;
                return false;
            }
            heights[c] = Math.max(heights[c], heights[d] + 1);
            return true;
        }

        private void settleAs(int c, int d) {
            if (takes(c, d)) {
                settle(c, values[d]);
            }
        }

        private void settle(int c, int v) {
            values[c] = v;
            known |= bit(c);
            waitsFor[c] = NONE;
        }

        private void findCircles() {
            circular = 0;
            circles = 0;
            for (int c = 0; c < CELLS; c++) {
                int least = leastOfCircle(c);
                if (least != NONE) {
                    circular |= bit(c);
                }
                // Each circle is counted at one of its CELLS alone.
                if (least == c) {
                    circles++;
                }
            }
        }

        /** The least CELL of the circle of c; NONE: it is not CIRCULAR. */
        private int leastOfCircle(int c) {
            int least = c;
            int d = waitsFor[c];
            for (int steps = 1; d != NONE && d != c && steps < CELLS; steps++) {
                least = Math.min(least, d);
                d = waitsFor[d];
            }
            return d == c ? least : NONE;
        }

        private int nthOfCircle(int c, int i) {
            if (!has(circular, c) || i >= CELLS) {
                return NONE;
            }
            int d = c;
            for (int steps = 0; steps < i; steps++) {
                d = waitsFor[d];
                if (d == c) {
                    return NONE;
                }
            }
            return d;
        }

        private int standing(int c) {
            if (has(known, c)) {
                return 0;
            }
            return has(circular, c) ? 2 : 1;
        }

        private int greatestHeight() {
            int greatest = 0;
            for (int c = 0; c < CELLS; c++) {
                if (has(known, c)) {
                    greatest = Math.max(greatest, heights[c]);
                }
            }
            return greatest;
        }

        private int countReads() {
            int all = 0;
            for (int c = 0; c < CELLS; c++) {
                all += Integer.bitCount(readBits[c]);
            }
            return all;
        }

        private int sumOfValues() {
            int sum = 0;
            for (int c = 0; c < CELLS; c++) {
                sum += has(known, c) ? values[c] : 0;
            }
            return sum;
        }

        private int nthByHeight(int i) {
            int seen = 0;
            // Each step of HEIGHT takes another CELL, so none is as high as there are CELLS.
            for (int height = 0; height < CELLS; height++) {
                for (int c = 0; c < CELLS; c++) {
                    if (has(known, c) && heights[c] == height) {
                        if (seen == i) {
                            return c;
                        }
                        seen++;
                    }
                }
            }
            return NONE;
        }

        /** All that READ at least one of a set. */
        private int readersOf(int bits) {
            int found = 0;
            for (int c = 0; c < CELLS; c++) {
                if ((readBits[c] & bits) != 0) {
                    found |= bit(c);
                }
            }
            return found;
        }

        private int neededBy(int c) {
            int needed = readBits[c];
            boolean isMore = true;
            for (int round = 0; isMore && round < CELLS; round++) {
                int ahead = needed;
                for (int d = 0; d < CELLS; d++) {
                    if (has(needed, d)) {
                        needed |= readBits[d];
                    }
                }
                isMore = needed != ahead;
            }
            return needed;
        }

        private int hangingOn(int c) {
            int hanging = readersOf(bit(c));
            boolean isMore = true;
            for (int round = 0; isMore && round < CELLS; round++) {
                int ahead = hanging;
                hanging |= readersOf(hanging);
                isMore = hanging != ahead;
            }
            return hanging;
        }

        /** The CELLS that MOVE from this to another. */
        private int movedTo(Reckoning other) {
            int moving = known ^ other.known;
            for (int c = 0; c < CELLS; c++) {
                if (has(known & other.known, c) && values[c] != other.values[c]) {
                    moving |= bit(c);
                }
            }
            return moving;
        }
    }

    /** The FORMULAS that CHANGES took away, the latest on top; beyond its room the oldest is lost. */
    private static final class History {
        private final int[] entries = new int[UNDOABLE * CHANGE_ITEMS];
        private int size;

        private void clear() {
            size = 0;
        }

        private void push(Change gone) {
            if (size == UNDOABLE) {
                System.arraycopy(entries, CHANGE_ITEMS, entries, 0, entries.length - CHANGE_ITEMS);
                size--;
            }
            int at = size * CHANGE_ITEMS;
            entries[at] = gone.cell;
            entries[at + 1] = gone.kind;
            entries[at + 2] = gone.p;
            entries[at + 3] = gone.q;
            entries[at + 4] = gone.r;
            size++;
        }

        private void popInto(Change change) {
            if (size == 0) {
                return;
            }
            size--;
            int at = size * CHANGE_ITEMS;
            change.tell(entries[at], entries[at + 1], entries[at + 2], entries[at + 3], entries[at + 4]);
        }
    }

    /** A SHEET. Its ITEMS stand in a row of the greatest length, cut to their lane as they are laid. */
    private static final class Row {
        private static final int NO_LANE = -1;

        private final int[] items = new int[ITEMS];
        private int lane = NO_LANE;
        private int size;

        private boolean isNothing() {
            return lane == NO_LANE;
        }

        private void renew(int newLane, int n) {
            Arrays.fill(items, 0);
            lane = newLane;
            size = n;
        }

        /** The FAULT that the machine would find at ITEM i of this taken as of a lane; 0. */
        private int faultAt(int asLane, int i) {
            if (isNothing()) {
                return MACHINE_NULL;
            }
            if (lane != asLane) {
                return MACHINE_CAST;
            }
            return i < 0 || i >= size ? MACHINE_INDEX : 0;
        }

        private int faultOfChange(int asLane, int from) {
            int found = 0;
            for (int j = 0; j < CHANGE_ITEMS && found == 0; j++) {
                found = faultAt(asLane, from + j);
            }
            return found;
        }

        private void askFrom(int from, Change change) {
            change.tell(items[from], items[from + 1], items[from + 2], items[from + 3], items[from + 4]);
        }

        private void set(int i, int v) {
            if (lane == 0) {
                items[i] = (byte) v;
            } else if (lane == 1) {
                items[i] = (short) v;
            } else {
                items[i] = v;
            }
        }
    }

    /** THE TAPE, and the TOKEN that was read of it last. */
    private static final class Tape {
        private static final int TOKEN_END = 0, TOKEN_NAME = 1, TOKEN_NUMBER = 2, TOKEN_SEMICOLON = 3, TOKEN_NONE = 4;
        private static final int LONGEST_NUMBER = 3;

        private final byte[] bytes = new byte[TAPE_BYTES];
        private int size;
        private int at;
        private int start;
        private int token;
        private int number;

        private void append(int c) {
            if (size < TAPE_BYTES) {
                bytes[size] = (byte) c;
                size++;
            }
        }

        private void rewind() {
            at = 0;
        }

        private void nextToken() {
            while (at < size && bytes[at] == ' ') {
                at++;
            }
            start = at;
            if (at >= size) {
                token = TOKEN_END;
            } else if (isLetter(bytes[at])) {
                takeName();
            } else if (isFigure(bytes[at])) {
                takeNumber();
            } else {
                token = bytes[at] == ';' ? TOKEN_SEMICOLON : TOKEN_NONE;
                at++;
            }
        }

        private void takeName() {
            while (at < size && isLetter(bytes[at])) {
                at++;
            }
            token = TOKEN_NAME;
        }

        private void takeNumber() {
            number = 0;
            while (at < size && isFigure(bytes[at])) {
                // What overflows here is too long anyway.
                number = number * 10 + (bytes[at] - '0');
                at++;
            }
            token = at - start <= LONGEST_NUMBER ? TOKEN_NUMBER : TOKEN_NONE;
        }

        /** Whether the NAME that was read is this word. */
        private boolean isWord(String word) {
            if (token != TOKEN_NAME || at - start != word.length()) {
                return false;
            }
            for (int i = 0; i < word.length(); i++) {
                if (bytes[start + i] != word.charAt(i)) {
                    return false;
                }
            }
            return true;
        }

        private static boolean isLetter(int b) {
            return b >= 'a' && b <= 'z';
        }

        private static boolean isFigure(int b) {
            return b >= '0' && b <= '9';
        }
    }

    /** Takes the lines of a TAPE into a draft; the first FAULT, if there is one, is of the TOKEN read last. */
    private static final class TextReader {
        private final Formulas draft = new Formulas();
        private int lines;
        private int fault;

        private boolean takesAll(Tape tape) {
            draft.clear();
            lines = 0;
            fault = 0;
            tape.rewind();
            tape.nextToken();
            // Each line takes bytes of THE TAPE, so there are never so many.
            while (tape.token != Tape.TOKEN_END && lines < TAPE_BYTES) {
                if (!takesLine(tape)) {
                    return false;
                }
                lines++;
                tape.nextToken();
            }
            return true;
        }

        private boolean takesLine(Tape tape) {
            int kind = kindTold(tape);
            if (kind == KIND_NONE) {
                return fails(tape, FAULT_MISPLACED);
            }
            if (!takesNumber(tape, 0, CELLS - 1)) {
                return false;
            }
            int c = tape.number;
            draft.begin(c, kind);
            int most = kind == KIND_NUM ? LARGEST_NUM : CELLS - 1;
            int n = operandsOf(kind);
            for (int which = PART_P; which <= n; which++) {
                int least = isSpan(kind) && which == PART_Q ? draft.part(c, PART_P) : 0;
                if (!takesNumber(tape, least, most)) {
                    return false;
                }
                draft.setOperand(c, which, tape.number);
            }
            tape.nextToken();
            return tape.token == Tape.TOKEN_SEMICOLON || fails(tape, FAULT_MISPLACED);
        }

        private boolean takesNumber(Tape tape, int least, int most) {
            tape.nextToken();
            if (tape.token != Tape.TOKEN_NUMBER) {
                return fails(tape, FAULT_MISPLACED);
            }
            if (tape.number < least || tape.number > most) {
                return fails(tape, FAULT_OUT_OF_BOUNDS);
            }
            return true;
        }

        /** Always false; what is no TOKEN at all is met before it can be misplaced. */
        private boolean fails(Tape tape, int otherwise) {
            fault = tape.token == Tape.TOKEN_NONE ? FAULT_NO_TOKEN : otherwise;
            return false;
        }

        private static int kindTold(Tape tape) {
            for (int kind = KIND_NUM; kind < KINDS; kind++) {
                if (tape.isWord(wordOf(kind))) {
                    return kind;
                }
            }
            return KIND_NONE;
        }

        private static String wordOf(int kind) {
            switch (kind) {
                case KIND_NUM:
                    return "num";
                case KIND_ADD:
                    return "add";
                case KIND_SUB:
                    return "sub";
                case KIND_MUL:
                    return "mul";
                case KIND_PICK:
                    return "pick";
                case KIND_SUM:
                    return "sum";
                case KIND_MOST:
                    return "most";
                default:
                    return "when";
            }
        }
    }
}
