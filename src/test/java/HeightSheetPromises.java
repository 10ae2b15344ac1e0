/** Each promise of the document by itself: ordinary inputs, the edges it names, wrong inputs. */
public final class HeightSheetPromises {
    private static final int BAD = -1, STATE = -2, FULL = -3, NONE = -4;
    private static final int ADD = 2, SUB = 3, MUL = 4, PICK = 5, SUM = 6, MOST = 7, WHEN = 8;
    private static int wrong = 0;

    private static void due(String what, int got, int want) {
        if (got != want) {
            wrong++;
            System.out.println(what + " answered " + got + ", due is " + want);
        }
    }

    private static int set(int... cells) {
        int bits = 0;
        for (int c : cells) bits |= 1 << c;
        return bits;
    }

    private static int feedAll(HeightSheet x, String text) {
        int last = 0;
        for (int i = 0; i < text.length(); i++) last = x.feed(text.charAt(i));
        return last;
    }

    private static int tell(HeightSheet x, String text) {
        feedAll(x, text);
        return x.text();
    }

    private static HeightSheet told(String text) {
        HeightSheet x = new HeightSheet();
        if (tell(x, text) < 0) due("text " + text, -1, 0);
        return x;
    }

    private static void fill(HeightSheet x, int k, int lane, int... items) {
        due("sheet", x.sheet(k, lane, items.length), 1);
        for (int i = 0; i < items.length; i++) due("lay", x.lay(k, i, items[i]), 1);
    }

    public static void main(String[] args) {
        newObject();
        feed();
        end();
        text();
        textFaults();
        rule();
        cell();
        value();
        reads();
        reader();
        far();
        order();
        circle();
        put();
        putBounds();
        would();
        latest();
        undo();
        storm();
        keepAndBack();
        sheet();
        lay();
        read();
        readRefused();
        torn();
        count();
        allWait();
        nothingIsStale();
        System.out.println(wrong == 0 ? "all promises hold" : wrong + " answers are not as due");
        if (wrong != 0) System.exit(1);
    }

    private static void newObject() {
        HeightSheet x = new HeightSheet();
        due("1 rule 0", x.rule(0), 0);
        due("1 rule 1", x.rule(1), 30);
        for (int what = 2; what < 8; what++) due("1 rule " + what, x.rule(what), 0);
        for (int c = 0; c < 30; c++) {
            due("1 kind", x.cell(c, 0), 0);
            due("1 value", x.value(c), 0);
        }
        for (int k = 0; k < 4; k++) due("1 lay", x.lay(k, 0, 0), -11);
        due("1 fault", x.fault(), 0);
        due("1 torn", x.torn(), 0);
        due("1 latest", x.latest(0), NONE);
        due("1 undo", x.undo(), STATE);
        due("1 back", x.back(0), STATE);
        due("1 images", x.count(0), 0);
        due("1 bytes", x.count(1), 0);
        due("1 sheet 0", x.count(2), NONE);
    }

    private static void feed() {
        HeightSheet x = new HeightSheet();
        due("2 -1", x.feed(-1), BAD);
        due("2 128", x.feed(128), BAD);
        due("2 0", x.feed(0), 1);
        due("2 127", x.feed(127), 2);
        for (int i = 3; i <= 320; i++) due("2 blank", x.feed(32), i);
        due("2 full", x.feed(32), FULL);
        due("2 bad ahead of full", x.feed(128), BAD);
        due("2 bytes", x.count(1), 320);
        due("2 no token", x.text(), -10);
        due("2 empty then", x.count(1), 0);
        due("2 again", x.feed(32), 1);
    }

    private static void end() {
        HeightSheet x = new HeightSheet();
        due("3 of nothing", x.end(0), 0);
        feedAll(x, "num 0 57;");
        due("3 below 0", x.end(-1), BAD);
        due("3 beyond", x.end(10), BAD);
        due("3 all", x.end(9), 9);
        due("3 seven", x.end(7), 9);
        due("3 bytes", x.count(1), 7);
        due("3 on", x.feed(';'), 8);
        due("3 text", x.text(), 1);
        due("3 value", x.value(0), 5);
    }

    private static void text() {
        HeightSheet x = new HeightSheet();
        x.put(9, 1, 1, 0, 0);
        x.keep(0);
        x.keep(1);
        due("4 lines", tell(x, "num 0 5;num0 7;add 1 0 0;  when 2 1 0 3 ;most 4 0 0;pick 5 0;sub 6 0 1;mul 7 0 1;sum 8 0 29"
                + ";"), 9);
        due("4 fault", x.fault(), 0);
        due("4 the latter holds", x.value(0), 7);
        due("4 not told", x.cell(9, 0), 0);
        due("4 told", x.rule(0), 8);
        due("4 no change", x.latest(0), NONE);
        due("4 nothing to undo", x.undo(), STATE);
        due("4 images are gone", x.count(0), 0);
        due("4 back", x.back(1), STATE);
        due("4 bytes", x.count(1), 0);
        for (int i = 0; i < 4; i++) due("4 when", x.cell(2, i), new int[] {WHEN, 1, 0, 3}[i]);
        due("4 told twice", tell(x, "when 3 4 5 6;pick 3 7;"), 2);
        for (int i = 0; i < 4; i++) due("4 pick", x.cell(3, i), new int[] {PICK, 7, 0, 0}[i]);
        due("4 nothing", x.text(), 0);
        due("4 nothing told", x.rule(0), 0);
        due("4 blanks", tell(x, "   "), 0);
        due("4 no blanks needed", tell(x, "num29 999;"), 1);
        due("4 largest", x.value(29), 999);
        x.keep(0);
        x.put(29, 1, 1, 0, 0);
        due("4 refused", tell(x, "num 0 1;num"), -21);
        due("4 stays", x.value(29), 1);
        due("4 undo stays", x.rule(7), 1);
        due("4 images stay", x.count(0), 1);
        due("4 latest stays", x.latest(0), set(29));
        due("4 tape is empty", x.count(1), 0);
    }

    private static void textFaults() {
        HeightSheet x = new HeightSheet();
        faulty(x, "num 30 1;", 4, 3);
        faulty(x, "num 29 1000;", 7, 1);
        faulty(x, "num 0 0005;", 6, 1);
        faulty(x, "num 0 12345678901234567890;", 6, 1);
        faulty(x, "num 0 1", 7, 2);
        faulty(x, "num 0 1   ", 10, 2);
        faulty(x, "num 0 1;;", 8, 2);
        faulty(x, "num 0 1; Add", 9, 1);
        faulty(x, "num 0 1; adds 1", 9, 2);
        faulty(x, "nu 0 1;", 0, 2);
        faulty(x, "none 0;", 0, 2);
        faulty(x, "num num 1;", 4, 2);
        faulty(x, "num 0 !", 6, 1);
        faulty(x, "num\t0 1;", 3, 1);
        faulty(x, "add 0 30 !", 6, 3);
        faulty(x, "add 0 1 30;", 8, 3);
        faulty(x, "add 0 1 2 3;", 10, 2);
        faulty(x, "sum 0 3 2;", 8, 3);
        faulty(x, "most 0 29 28;", 10, 3);
        faulty(x, "pick 0 30;", 7, 3);
        faulty(x, "pick 0 1 2;", 9, 2);
        faulty(x, "when 0 1 2 30;", 11, 3);
        faulty(x, "when 0 1 2;", 10, 2);
        faulty(x, "12 num", 0, 2);
        faulty(x, "-", 0, 1);
        faulty(x, "z", 0, 2);
        faulty(x, "num 0 1;a{", 8, 2);
        due("5 lines", tell(x, "sum 0 3 3;sub 1 3 2;"), 2);
        due("5 none", x.fault(), 0);
    }

    private static void faulty(HeightSheet x, String text, int place, int fault) {
        due("4 '" + text + "'", tell(x, text), -10 - place);
        due("5 '" + text + "'", x.fault(), fault);
        due("5 again '" + text + "'", x.fault(), fault);
    }

    /** Circles 9-10, 11-12, 14 by itself; 13, 15 and 16 wait for such. */
    private static HeightSheet mixed() {
        return told("num 0 5;num 1 7;add 2 0 1;sub 3 1 0;mul 4 2 3;sum 5 0 4;most 6 0 5;pick 7 3;when 8 3 5 6;"
                + "when 9 10 0 1;add 10 9 0;add 11 12 0;add 12 11 1;sum 13 8 14;pick 14 14;add 15 0 13;add 16 15 0;");
    }

    private static void rule() {
        HeightSheet x = mixed();
        due("6 formulas", x.rule(0), 17);
        due("6 with a value", x.rule(1), 22);
        due("6 wait", x.rule(2), 8);
        due("6 circular", x.rule(3), 5);
        due("6 circles", x.rule(4), 3);
        due("6 greatest height", x.rule(5), 4);
        // 2 2 2 (add, sub, mul), 5 (sum), 6 (most), 2 (pick), 2 (when), then those that wait
        due("6 reads", x.rule(6), 2 + 2 + 2 + 5 + 6 + 2 + 2 + 1 + 1 + 1 + 1 + 2 + 1 + 2 + 1);
        due("6 to undo", x.rule(7), 0);
        x.put(20, 1, 3, 0, 0);
        due("6 to undo 1", x.rule(7), 1);
        due("6 formulas 1", x.rule(0), 18);
        due("6 -1", x.rule(-1), BAD);
        due("6 8", x.rule(8), BAD);
    }

    private static void cell() {
        HeightSheet x = mixed();
        due("7 kind", x.cell(8, 0), WHEN);
        due("7 P", x.cell(8, 1), 3);
        due("7 Q", x.cell(8, 2), 5);
        due("7 R", x.cell(8, 3), 6);
        due("7 has a value", x.cell(8, 4), 0);
        due("7 waits", x.cell(13, 4), 1);
        due("7 circular", x.cell(12, 4), 2);
        due("7 circular by itself", x.cell(14, 4), 2);
        int[] heights = {0, 0, 1, 1, 2, 3, 4, 2, 4};
        for (int c = 0; c < heights.length; c++) due("7 height " + c, x.cell(c, 5), heights[c]);
        due("7 no height", x.cell(13, 5), NONE);
        due("7 13 waits for", x.cell(13, 6), 9);
        due("7 9 waits for", x.cell(9, 6), 10);
        due("7 14 waits for", x.cell(14, 6), 14);
        due("7 16 waits for", x.cell(16, 6), 15);
        due("7 waits for none", x.cell(8, 6), NONE);
        due("7 reads", x.cell(5, 7), 5);
        due("7 reads the first without", x.cell(13, 7), 2);
        due("7 reads none", x.cell(0, 7), 0);
        // 0: read by 2 3 5 6 15 (10, 11 and 16 stop at what they wait for)
        due("7 readers", x.cell(0, 8), 5);
        due("7 reads itself", x.cell(14, 8), 1);
        due("7 what -1", x.cell(0, -1), BAD);
        due("7 what 9", x.cell(0, 9), BAD);
        due("7 c -1", x.cell(-1, 0), BAD);
        due("7 c 30", x.cell(30, 0), BAD);
        x.put(0, 1, 5, 77, 88);
        due("7 no Q", x.cell(0, 2), 0);
        due("7 no R", x.cell(0, 3), 0);
    }

    private static void value() {
        HeightSheet x = mixed();
        int[] values = {5, 7, 12, 2, 24, 50, 50, 12, 50};
        for (int c = 0; c < values.length; c++) due("8 value " + c, x.value(c), values[c]);
        due("8 none", x.value(13), 0);
        due("8 circular", x.value(9), 0);
        due("8 no such", x.value(30), 0);
        due("8 no such -1", x.value(-1), 0);
        x = told("num 0 999;mul 1 0 0;mul 2 1 1;mul 3 2 2;num 4 1;sub 5 6 4;pick 7 5;when 8 5 0 4;when 9 6 0 4;num 29 77;"
                + "most 10 5 5;most 11 5 6;");
        due("8 square", x.value(1), 998001);
        due("8 32 bits", x.value(2), 998001 * 998001);
        due("8 32 bits again", x.value(3), 998001 * 998001 * (998001 * 998001));
        due("8 below 0", x.value(5), -1);
        due("8 picked by -1", x.value(7), 77);
        due("8 when below 0", x.value(8), 1);
        due("8 when 0", x.value(9), 1);
        due("8 when 1", told("num 0 1;num 1 8;num 2 9;when 3 0 1 2;").value(3), 8);
        due("8 most of -1", x.value(10), -1);
        due("8 most of -1 and 0", x.value(11), 0);
    }

    private static void reads() {
        HeightSheet x = mixed();
        int[] of8 = {3, 5, NONE};
        for (int i = 0; i < 3; i++) due("9 when " + i, x.reads(8, i), of8[i]);
        int[] of7 = {3, 2, NONE};
        for (int i = 0; i < 3; i++) due("9 pick " + i, x.reads(7, i), of7[i]);
        int[] of3 = {1, 0, NONE};
        for (int i = 0; i < 3; i++) due("9 sub " + i, x.reads(3, i), of3[i]);
        for (int i = 0; i < 5; i++) due("9 sum " + i, x.reads(5, i), i);
        due("9 sum 5", x.reads(5, 5), NONE);
        int[] of13 = {8, 9, NONE};
        for (int i = 0; i < 3; i++) due("9 waits " + i, x.reads(13, i), of13[i]);
        due("9 num", x.reads(0, 0), NONE);
        due("9 none", x.reads(29, 0), NONE);
        due("9 i -1", x.reads(0, -1), BAD);
        due("9 c -1", x.reads(-1, 0), BAD);
        due("9 c 30", x.reads(30, 0), BAD);
        due("9 far i", x.reads(5, Integer.MAX_VALUE), NONE);
        x.put(20, MUL, 1, 1, 0);
        due("9 once", x.reads(20, 0), 1);
        due("9 only once", x.reads(20, 1), NONE);
        x.put(21, PICK, 21, 0, 0);
        due("9 itself", x.reads(21, 0), 21);
        due("9 none behind", x.reads(21, 1), NONE);
        x.put(22, 1, 22, 0, 0);
        x.put(23, PICK, 22, 0, 0);
        due("9 picks what told it", x.reads(23, 1), NONE);
        due("9 its value", x.value(23), 22);
    }

    private static void reader() {
        HeightSheet x = mixed();
        int[] of0 = {2, 3, 5, 6, 15, NONE};
        for (int i = 0; i < of0.length; i++) due("10 of 0 " + i, x.reader(0, i), of0[i]);
        due("10 of 9", x.reader(9, 0), 10);
        due("10 of 9, 1", x.reader(9, 1), 13);
        due("10 of 9, 2", x.reader(9, 2), NONE);
        due("10 of 29", x.reader(29, 0), NONE);
        due("10 i -1", x.reader(0, -1), BAD);
        due("10 c -1", x.reader(-1, 0), BAD);
        due("10 c 30", x.reader(30, 0), BAD);
        due("10 far i", x.reader(0, Integer.MAX_VALUE), NONE);
    }

    private static void far() {
        HeightSheet x = mixed();
        due("11 needs of 4", x.far(4, 0), set(0, 1, 2, 3));
        due("11 needs of 0", x.far(0, 0), 0);
        due("11 needs of a circle", x.far(9, 0), set(9, 10));
        due("11 needs of 14", x.far(14, 0), set(14));
        due("11 needs of 16", x.far(16, 0), set(0, 1, 2, 3, 4, 5, 8, 9, 10, 13, 15));
        due("11 hangs on 8", x.far(8, 1), set(13, 15, 16));
        due("11 hangs on 9", x.far(9, 1), set(9, 10, 13, 15, 16));
        due("11 hangs on 12", x.far(12, 1), set(11, 12));
        due("11 hangs on 29", x.far(29, 1), 0);
        due("11 hangs on 3", x.far(3, 1), set(4, 5, 6, 7, 8, 13, 15, 16));
        due("11 what -1", x.far(0, -1), BAD);
        due("11 what 2", x.far(0, 2), BAD);
        due("11 c -1", x.far(-1, 0), BAD);
        due("11 c 30", x.far(30, 1), BAD);
        x = new HeightSheet();
        for (int c = 0; c < 29; c++) x.put(c, PICK, c + 1, 0, 0);
        // All are 0, so each pick reads CELL 0 too: 0 waits for 1, and 28 for 0, through all of them.
        due("11 a long way", x.far(0, 0), set(0) | (1 << 30) - 2);
        due("11 a long way back", x.far(29, 1), (1 << 29) - 1);
    }

    private static void order() {
        HeightSheet x = told("num 5 1;add 4 5 5;add 3 4 5;add 2 3 5;add 0 0 0;add 29 5 5;");
        int[] zeros = {1, 5, 6, 7, 8, 9, 10, 11, 12, 13, 14, 15, 16, 17, 18, 19, 20, 21, 22, 23, 24, 25, 26, 27, 28};
        for (int i = 0; i < zeros.length; i++) due("12 " + i, x.order(i), zeros[i]);
        int[] rest = {4, 29, 3, 2, NONE, NONE};
        for (int i = 0; i < rest.length; i++) due("12 rest " + i, x.order(zeros.length + i), rest[i]);
        due("12 -1", x.order(-1), BAD);
        due("12 far", x.order(Integer.MAX_VALUE), NONE);
        x = new HeightSheet();
        for (int c = 0; c < 29; c++) x.put(c, ADD, c + 1, c + 1, 0);
        due("12 highest", x.order(29), 0);
        due("12 greatest height", x.rule(5), 29);
    }

    private static void circle() {
        HeightSheet x = told("add 3 7 0;add 7 1 0;add 1 3 0;add 2 1 0;add 9 9 9;");
        int[] from7 = {7, 1, 3, NONE};
        for (int i = 0; i < from7.length; i++) due("13 from 7 " + i, x.circle(7, i), from7[i]);
        int[] from3 = {3, 7, 1, NONE};
        for (int i = 0; i < from3.length; i++) due("13 from 3 " + i, x.circle(3, i), from3[i]);
        due("13 waits", x.circle(2, 0), NONE);
        due("13 has a value", x.circle(0, 0), NONE);
        due("13 by itself", x.circle(9, 0), 9);
        due("13 by itself 1", x.circle(9, 1), NONE);
        due("13 i -1", x.circle(9, -1), BAD);
        due("13 c -1", x.circle(-1, 0), BAD);
        due("13 c 30", x.circle(30, 0), BAD);
        due("13 far i", x.circle(9, Integer.MAX_VALUE), NONE);
        x = new HeightSheet();
        for (int c = 0; c < 30; c++) x.put(c, ADD, (c + 1) % 30, c, 0);
        due("13 all in one", x.rule(4), 1);
        due("13 all circular", x.rule(3), 30);
        due("13 the last", x.circle(11, 29), 10);
        due("13 behind it", x.circle(11, 30), NONE);
    }

    private static void put() {
        HeightSheet x = told("num 0 5;num 1 7;add 2 0 1;most 3 0 1;add 4 3 3;when 5 0 1 2;");
        due("14 read by 2 3 5", x.put(0, 1, 6, 0, 0), 4);
        due("14 moved", x.value(2), 13);
        due("14 cut at 3", x.latest(2), set(3, 5));
        due("14 the same", x.put(2, ADD, 0, 1, 0), 1);
        due("14 the same is cut", x.latest(2), set(2));
        due("14 reads ahead of it", x.put(0, 1, 0, 0, 0), 4);
        due("14 when turns", x.reads(5, 1), 2);
        due("14 a circle", x.put(1, ADD, 2, 2, 0), 5);
        due("14 circular", x.rule(3), 2);
        due("14 it ends", x.put(1, 1, 7, 0, 0), 5);
        due("14 no circle", x.rule(3), 0);
        due("14 none", x.put(1, 0, 99, 99, 99), 5);
        due("14 none has no P", x.cell(1, 1), 0);
        due("14 kind none", x.cell(1, 0), 0);
        due("14 a sum", x.put(6, SUM, 0, 5, 0), 1);
        due("14 its value", x.value(6), 0);
        due("14 to undo", x.rule(7), 7);
    }

    private static void putBounds() {
        int[][] bad = {
            {-1, 0, 0, 0, 0}, {30, 0, 0, 0, 0}, {0, -1, 0, 0, 0}, {0, 9, 0, 0, 0},
            {0, 1, -1, 0, 0}, {0, 1, 1000, 0, 0},
            {0, ADD, 30, 0, 0}, {0, ADD, 0, 30, 0}, {0, SUB, -1, 0, 0}, {0, SUB, 0, -1, 0}, {0, MUL, 0, 30, 0},
            {0, PICK, 30, 0, 0}, {0, PICK, -1, 0, 0},
            {0, SUM, 3, 2, 0}, {0, MOST, 1, 0, 0}, {0, SUM, -1, 0, 0}, {0, SUM, 0, 30, 0}, {0, MOST, 30, 30, 0},
            {0, WHEN, 30, 0, 0}, {0, WHEN, 0, 30, 0}, {0, WHEN, 0, 0, 30}, {0, WHEN, 0, 0, -1}};
        HeightSheet x = new HeightSheet();
        for (int[] b : bad) {
            String name = "put " + java.util.Arrays.toString(b);
            due("14 " + name, x.put(b[0], b[1], b[2], b[3], b[4]), BAD);
            due("15 " + name, x.would(b[0], b[1], b[2], b[3], b[4], 0), BAD);
        }
        due("14 nothing came", x.latest(0), NONE);
        due("14 nothing to undo", x.rule(7), 0);
        int[][] good = {
            {29, 0, -1, -1, -1}, {0, 1, 999, -1, -1}, {0, 1, 0, 30, 30}, {0, ADD, 29, 29, -1}, {0, PICK, 29, -1, 30},
            {0, SUM, 29, 29, 99}, {0, MOST, 0, 29, 99}, {0, WHEN, 29, 29, 29}};
        for (int[] g : good) {
            due("15 would " + java.util.Arrays.toString(g), x.would(g[0], g[1], g[2], g[3], g[4], 0), 1);
            due("14 put " + java.util.Arrays.toString(g), x.put(g[0], g[1], g[2], g[3], g[4]), 1);
        }
    }

    private static void would() {
        HeightSheet x = told("num 0 5;num 1 7;add 2 0 1;most 3 0 1;add 4 3 3;");
        due("15 evaluate", x.would(0, 1, 6, 0, 0, 0), 3);
        due("15 move", x.would(0, 1, 6, 0, 0, 1), 2);
        due("15 circular", x.would(0, 1, 6, 0, 0, 2), 0);
        due("15 circular then", x.would(1, PICK, 2, 0, 0, 2), 2);
        due("15 move then", x.would(1, PICK, 2, 0, 0, 1), 4);
        due("15 evaluate then", x.would(1, PICK, 2, 0, 0, 0), 4);
        due("15 nothing changes", x.value(0), 5);
        due("15 nothing changes 1", x.cell(1, 0), 1);
        due("15 nothing changes 2", x.rule(3), 0);
        due("15 no change", x.latest(0), NONE);
        due("15 nothing to undo", x.rule(7), 0);
        due("15 what -1", x.would(0, 1, 6, 0, 0, -1), BAD);
        due("15 what 3", x.would(0, 1, 6, 0, 0, 3), BAD);
    }

    private static void latest() {
        HeightSheet x = told("num 0 5;num 1 7;add 2 0 1;most 3 0 1;add 4 3 3;");
        due("16 none", x.latest(0), NONE);
        due("16 bad ahead of none", x.latest(3), BAD);
        due("16 bad -1", x.latest(-1), BAD);
        x.put(0, 1, 6, 0, 0);
        due("16 evaluated", x.latest(0), set(0, 2, 3));
        due("16 move", x.latest(1), set(0, 2));
        due("16 cut", x.latest(2), set(3));
        x.put(30, 1, 6, 0, 0);
        x.would(1, 1, 6, 0, 0, 0);
        due("16 still", x.latest(0), set(0, 2, 3));
        x.put(1, ADD, 4, 4, 0);
        due("16 lost", x.latest(1), set(1, 2, 3, 4));
        x.undo();
        due("16 by undo", x.latest(1), set(1, 2, 3, 4));
        due("16 by undo, evaluated", x.latest(0), set(1, 2, 3, 4));
        x.keep(0);
        x.back(0);
        due("16 by back", x.latest(0), NONE);
    }

    private static void undo() {
        HeightSheet x = new HeightSheet();
        for (int i = 0; i < 25; i++) x.put(0, 1, i, 0, 0);
        due("17 can be", x.rule(7), 20);
        for (int i = 23; i >= 4; i--) {
            due("17 undo", x.undo(), 1);
            due("17 value", x.value(0), i);
            due("17 left", x.rule(7), i - 4);
        }
        due("17 no more", x.undo(), STATE);
        due("17 stays", x.value(0), 4);
        due("17 latest stays", x.latest(0), 1);
        x.put(0, WHEN, 1, 2, 3);
        x.put(1, ADD, 0, 0, 0);
        due("17 a circle", x.rule(3), 2);
        due("17 back", x.undo(), 2);
        due("17 no circle", x.rule(3), 0);
        due("17 the when", x.cell(0, 0), WHEN);
        due("17 its R", x.cell(0, 3), 3);
        x.put(0, 1, 1, 0, 0);
        due("17 a when again", x.undo(), 1);
        for (int i = 0; i < 4; i++) due("17 a when whole", x.cell(0, i), new int[] {WHEN, 1, 2, 3}[i]);
        for (int i = 0; i < 19; i++) x.put(2, 1, i, 0, 0);
        x.undo();
        x.put(3, 1, 1, 0, 0);
        due("17 full again", x.rule(7), 20);
        due("17 by the storm", x.storm(1, 20) >= 20 ? 1 : 0, 1);
        due("17 still full", x.rule(7), 20);
    }

    private static void storm() {
        HeightSheet x = new HeightSheet();
        due("18 n 0", x.storm(1, 0), BAD);
        due("18 n 21", x.storm(1, 21), BAD);
        due("18 n -1", x.storm(1, -1), BAD);
        due("18 nothing came", x.latest(0), NONE);
        int[] seeds = {0, 1, -1, 12345, Integer.MIN_VALUE, Integer.MAX_VALUE, 987654321};
        for (int seed : seeds) {
            HeightSheet a = mixed();
            HeightSheet b = mixed();
            due("18 evaluated by " + seed, a.storm(seed, 20), stormByPut(b, seed, 20));
            for (int c = 0; c < 30; c++) {
                for (int what = 0; what < 9; what++) due("18 cell " + c, a.cell(c, what), b.cell(c, what));
                due("18 value " + c, a.value(c), b.value(c));
            }
            for (int what = 0; what < 3; what++) due("18 latest", a.latest(what), b.latest(what));
            for (int i = 0; i < 20; i++) due("18 undo", a.undo(), b.undo());
            due("18 all is back", a.value(6), 50);
            due("18 all is back 1", a.rule(6), mixed().rule(6));
        }
        // Seed 0 becomes 12345, of which bits 16 to 30 are 0: CELL 0, KIND none.
        due("18 one", x.storm(0, 1), 1);
        due("18 its cell", x.latest(0), set(0));
    }

    private static int stormByPut(HeightSheet x, int seed, int n) {
        long s = seed & 0xFFFFFFFFL;
        int sum = 0;
        for (int i = 0; i < n; i++) {
            int[] d = new int[3];
            for (int j = 0; j < 3; j++) {
                s = (s * 1103515245L + 12345L) & 0xFFFFFFFFL;
                d[j] = (int) (s / 65536 % 32768);
            }
            int kind = d[0] / 32 % 9, p = d[1] % 30, q = d[1] / 32 % 30;
            boolean turned = (kind == SUM || kind == MOST) && p > q;
            sum += x.put(d[0] % 30, kind, turned ? q : p, turned ? p : q, d[2] % 30);
        }
        return sum;
    }

    private static void keepAndBack() {
        HeightSheet x = told("num 0 5;add 1 0 0;");
        due("19 k -1", x.keep(-1), BAD);
        due("19 k 2", x.keep(2), BAD);
        due("20 k -1", x.back(-1), BAD);
        due("20 k 2", x.back(2), BAD);
        due("20 there is none", x.back(0), STATE);
        due("19 first", x.keep(0), 0);
        x.put(0, 1, 8, 0, 0);
        x.put(2, 1, 1, 0, 0);
        due("19 other", x.keep(1), 0);
        due("20 formulas", x.back(0), 2);
        due("20 value", x.value(1), 10);
        due("20 no change", x.latest(0), NONE);
        due("20 nothing to undo", x.undo(), STATE);
        due("20 other", x.back(1), 3);
        due("20 other value", x.value(1), 16);
        due("20 again", x.back(0), 2);
        due("19 anew", x.keep(1), 1);
        due("20 anew", x.back(1), 2);
        due("19 images", x.count(0), 2);
        due("20 refused changes nothing", x.put(0, 1, 9, 0, 0), 2);
        x.back(7);
        due("20 still to undo", x.rule(7), 1);
    }

    private static void sheet() {
        HeightSheet x = new HeightSheet();
        due("21 k -1", x.sheet(-1, 0, 1), BAD);
        due("21 k 4", x.sheet(4, 0, 1), BAD);
        due("21 lane -1", x.sheet(0, -1, 1), BAD);
        due("21 lane 3", x.sheet(0, 3, 1), BAD);
        due("21 n 41", x.sheet(0, 0, 41), BAD);
        due("21 n -1", x.sheet(0, 0, -1), -14);
        due("21 bad ahead of size", x.sheet(0, 3, -1), BAD);
        due("21 nothing came", x.count(2), NONE);
        due("21 n 40", x.sheet(0, 0, 40), 1);
        due("21 items", x.count(2), 40);
        x.lay(0, 0, 7);
        due("21 refused", x.sheet(0, 1, Integer.MIN_VALUE), -14);
        due("21 stays", x.count(2), 40);
        due("21 n 5", x.sheet(0, 0, 5), 1);
        due("21 zeros: cell 0 has none", x.read(0, 0, 0, 1), 1);
        due("21 its cell", x.latest(0), 1);
        due("21 n 0", x.sheet(0, 2, 0), 1);
        due("21 no items", x.count(2), 0);
        due("21 no item", x.lay(0, 0, 0), -12);
    }

    private static void lay() {
        HeightSheet x = new HeightSheet();
        due("22 k -1", x.lay(-1, 0, 0), BAD);
        due("22 k 4", x.lay(4, 0, 0), BAD);
        due("22 nothing", x.lay(3, 0, 0), -11);
        due("22 nothing, no index", x.lay(3, -1, 0), -11);
        x.sheet(3, 0, 5);
        due("22 i -1", x.lay(3, -1, 0), -12);
        due("22 i 5", x.lay(3, 5, 0), -12);
        due("22 last", x.lay(3, 4, 1), 1);
        // Only the lowest bits of each lane hold: 256 + 3 is 3 as a BYTE, 65536 + 3 as a SHORT.
        fill(x, 0, 0, 256 + 3, 1, 512 + 100, 0, 0);
        due("22 bytes", x.read(0, 0, 0, 1), 1);
        due("22 bytes, value", x.value(3), 100);
        fill(x, 0, 0, 3, 1, 200, 0, 0);
        due("22 a byte below 0", x.read(0, 0, 0, 1), -20);
        fill(x, 1, 1, 65536 + 4, 1, 65536 + 999, 0, 0);
        due("22 shorts", x.read(1, 1, 0, 1), 1);
        due("22 shorts, value", x.value(4), 999);
        fill(x, 1, 1, 4, 1, 65535, 0, 0);
        due("22 a short below 0", x.read(1, 1, 0, 1), -20);
        fill(x, 2, 2, 5, 1, 65536, 0, 0);
        due("22 ints", x.read(2, 2, 0, 1), -20);
    }

    private static void read() {
        HeightSheet x = told("num 0 3;add 1 0 0;");
        fill(x, 1, 1, 2, ADD, 0, 1, 0, 3, MOST, 0, 2, 0, 4, 1);
        int[][] bad = {{-1, 1, 0, 1}, {4, 1, 0, 1}, {1, -1, 0, 1}, {1, 3, 0, 1}, {1, 1, 0, -1}, {1, 1, 0, 9}};
        for (int[] b : bad) due("23 bad", x.read(b[0], b[1], b[2], b[3]), BAD);
        due("23 none came", x.latest(0), NONE);
        due("23 n 0", x.read(1, 1, 0, 0), 0);
        due("23 no change", x.latest(0), NONE);
        due("23 two", x.read(1, 1, 0, 2), 2);
        due("23 value 2", x.value(2), 9);
        due("23 value 3", x.value(3), 9);
        due("23 latest", x.latest(0), set(3));
        due("23 to undo", x.rule(7), 2);
        due("23 undo", x.undo(), 1);
        due("23 undone", x.cell(3, 0), 0);
        due("23 whole ones", x.read(1, 1, 0, 8), 2);
        due("23 torn", x.torn(), 2);
        due("23 to undo again", x.rule(7), 3);
        due("23 from 5", x.read(1, 1, 5, 1), 1);
        due("23 from 8: not whole", x.read(1, 1, 8, 1), 0);
        due("23 from 7: cell 0", x.read(1, 1, 7, 1), 1);
        due("23 its kind", x.cell(0, 0), 2);
        due("23 from -1", x.read(1, 1, -1, 1), 0);
        due("23 from the least", x.read(1, 1, Integer.MIN_VALUE, 8), 0);
        due("23 from the greatest", x.read(1, 1, Integer.MAX_VALUE, 8), 0);
        due("23 nothing", x.read(0, 0, 0, 1), 0);
        due("23 another lane", x.read(1, 2, 0, 1), 0);
        x.sheet(0, 2, 40);
        for (int i = 0; i < 8; i++) {
            x.lay(0, 5 * i, i);
            x.lay(0, 5 * i + 1, 1);
            x.lay(0, 5 * i + 2, 10 * i);
        }
        due("23 eight", x.read(0, 2, 0, 8), 8);
        due("23 the last", x.value(7), 70);
    }

    private static void readRefused() {
        HeightSheet x = told("num 0 3;add 1 0 0;");
        x.put(0, 1, 4, 0, 0);
        int evaluated = x.latest(0);
        fill(x, 0, 2, 2, 1, 5, 0, 0, 3, 1, 1000, 0, 0, 4, 1);
        due("23 refused", x.read(0, 2, 0, 2), -21);
        due("23 refused ahead of torn", x.read(0, 2, 0, 3), -21);
        due("23 the first", x.read(0, 2, 5, 1), -20);
        due("23 not come", x.cell(2, 0), 0);
        due("23 latest is as it was", x.latest(0), evaluated);
        due("23 undo is as it was", x.rule(7), 1);
        due("23 torn ahead of refused", x.read(0, 2, -5, 8), 0);
        due("23 one comes", x.read(0, 2, 0, 1), 1);
        x.lay(0, 7, 999);
        due("23 two come", x.read(0, 2, 0, 3), 2);
        due("23 value", x.value(3), 999);
        x.lay(0, 5, 30);
        due("23 no such cell", x.read(0, 2, 0, 2), -21);
        x.lay(0, 5, 3);
        x.lay(0, 6, 9);
        due("23 no such kind", x.read(0, 2, 0, 2), -21);
    }

    private static void torn() {
        HeightSheet x = new HeightSheet();
        fill(x, 1, 1, 2, 1, 5, 0, 0, 3, 9, 0, 0, 0, 1);
        x.read(0, 0, 0, 1);
        due("24 null", x.torn(), 1);
        x.read(1, 0, 0, 1);
        due("24 cast", x.torn(), 3);
        x.read(1, 0, -1, 1);
        due("24 cast ahead of index", x.torn(), 3);
        x.read(1, 1, 10, 1);
        due("24 index", x.torn(), 2);
        x.read(1, 1, 0, 2);
        due("24 the refused did not come to an end", x.torn(), 2);
        x.read(1, 1, 0, 9);
        due("24 nor the bad", x.torn(), 2);
        x.read(1, 1, 0, 1);
        due("24 none", x.torn(), 0);
        x.read(1, 1, -1, 1);
        due("24 index again", x.torn(), 2);
        x.read(1, 1, 0, 0);
        due("24 of none", x.torn(), 0);
    }

    private static void count() {
        HeightSheet x = told("num 0 999;mul 1 0 0;mul 2 1 1;sum 3 0 2;most 4 0 3;sum 5 5 6;");
        due("25 -1", x.count(-1), BAD);
        due("25 5", x.count(5), BAD);
        due("25 images", x.count(0), 0);
        x.keep(1);
        due("25 image", x.count(0), 1);
        due("25 bytes", x.count(1), 0);
        x.feed('n');
        due("25 byte", x.count(1), 1);
        due("25 nothing", x.count(2), NONE);
        x.sheet(0, 1, 17);
        due("25 items", x.count(2), 17);
        due("25 spans", x.count(3), 3);
        int square = 998001;
        int fourth = square * square;
        int sum = 999 + square + fourth;
        int most = Math.max(Math.max(999, square), Math.max(fourth, sum));
        due("25 values", x.count(4), sum + sum + most);
    }

    private static void allWait() {
        HeightSheet x = new HeightSheet();
        for (int c = 0; c < 30; c++) x.put(c, PICK, c, 0, 0);
        due("6 none has a value", x.rule(1), 0);
        due("6 all wait", x.rule(2), 30);
        due("6 all by themselves", x.rule(4), 30);
        due("6 no height", x.rule(5), 0);
        due("12 none", x.order(0), NONE);
        due("25 no values", x.count(4), 0);
    }

    /** What was there before is not seen: of a longer tape, of values, heights, circles that are gone. */
    private static void nothingIsStale() {
        HeightSheet x = new HeightSheet();
        feedAll(x, "num ");
        x.end(3);
        due("4 a blank that is gone", x.text(), -13);
        feedAll(x, "numb");
        x.end(3);
        due("4 a letter that is gone", x.text(), -13);
        feedAll(x, "num 0 12;");
        x.end(7);
        due("4 a figure that is gone", x.text(), -17);
        x = told("add 0 1 2;sum 1 2 3;num 3 4;");
        due("6 reads of 0 too", x.rule(6), 4);
        due("7 0 does not wait", x.cell(0, 6), NONE);
        due("7 height of 0", x.cell(0, 5), 2);
        due("25 spans", x.count(3), 1);
        x.put(0, MOST, 1, 3, 0);
        due("25 a span at 0", x.count(3), 2);
        x.put(1, 1, 1, 0, 0);
        due("7 lower", x.cell(0, 5), 1);
        x.put(1, 1, 2, 0, 0);
        due("7 lower still", x.cell(0, 5), 1);
        x.put(4, ADD, 0, 0, 0);
        due("11 through 0", x.far(4, 0), set(0, 1, 2, 3));
        x.put(3, ADD, 4, 4, 0);
        due("6 a circle", x.rule(3), 3);
        due("8 no value now", x.value(4), 0);
        due("8 no value there", x.value(3), 0);
        for (int i = 0; i < 3; i++) {
            x.put(3, 1, i, 0, 0);
            due("6 no circle", x.rule(3), 0);
            due("6 no circles", x.rule(4), 0);
            due("13 no circle", x.circle(3, 0), NONE);
        }
    }
}
