/** Promises 28 to 32: sheets. */
final class SheetEdges extends Edges {
    /** An INSTRUCTION of each kind of parts. */
    private static final String ALL = "put a 1;add b c d;if e 5{}{}";

    static void all() {
        sheet();
        sheetBad();
        lay();
        layBad();
        read();
        readFaults();
        readWild();
        readBad();
        readRefused();
        torn();
        count();
        countBad();
    }

    private static void sheet() {
        says(28, "A SHEET is a new row of CELLS 0: 1.");
        GuardedCode x = told("put c 55;");
        for (int lane = 0; lane < 3; lane++) {
            due("of 40", x.sheet(0, lane, 40), 1);
            due("CELLS", x.count(3), 40);
            due("of 0", x.sheet(0, lane, 0), 1);
            due("CELLS", x.count(3), 0);
            due("of 1", x.sheet(0, lane, 1), 1);
            due("CELLS", x.count(3), 1);
        }
        x.sheet(3, 1, 3);
        lay(x, 3, 0, 9, 9, 9);
        due("new", x.sheet(3, 1, 3), 1);
        lay(x, 3, 1, 2);
        due("its CELLS are 0", x.read(3, 1, 0, 1), 1);
        due("its CELLS are 0", x.code(0, 2), 0);
        lay(x, 3, 0, 0, 2, 33);
        x.sheet(3, 2, 3);
        due("of another lane then", x.read(3, 1, 0, 1), 0);
        due("of another lane then", x.torn(), 3);
        due("no other is", x.lay(2, 0, 0), -11);
    }

    private static void sheetBad() {
        says(28, "BAD: also n above 40; -10 - 4.");
        GuardedCode x = new GuardedCode();
        x.sheet(0, 0, 7);
        due("41", x.sheet(0, 0, 41), BAD);
        due("highest", x.sheet(0, 0, HIGHEST), BAD);
        due("SHEET 4", x.sheet(4, 0, 1), BAD);
        due("SHEET -1", x.sheet(-1, 0, 1), BAD);
        due("SHEET lowest", x.sheet(LOWEST, 0, 1), BAD);
        due("lane 3", x.sheet(0, 3, 1), BAD);
        due("lane -1", x.sheet(0, -1, 1), BAD);
        due("lane lowest", x.sheet(0, LOWEST, 1), BAD);
        due("SIZE", x.sheet(0, 0, -1), -14);
        due("SIZE, lowest", x.sheet(0, 2, LOWEST), -14);
        due("BAD ahead of SIZE: SHEET", x.sheet(4, 0, -1), BAD);
        due("BAD ahead of SIZE: lane", x.sheet(0, 3, -1), BAD);
        due("it stays", x.count(3), 7);
        due("of nothing", x.sheet(1, 0, -1), -14);
        due("it stays nothing", x.lay(1, 0, 0), -11);
        due("no read() found it", x.torn(), 0);
    }

    /** What the NUMBER of a put becomes by a CELL of a lane; BAD: it is refused. */
    private static void number(int lane, int laid, int want) {
        GuardedCode x = told("put c 55;");
        x.sheet(2, lane, 3);
        x.lay(2, 1, 2);
        due("lay " + laid + " on lane " + lane, x.lay(2, 2, laid), 1);
        due("read " + laid + " of lane " + lane, x.read(2, lane, 0, 1), want == BAD ? -20 : 1);
        due("it becomes", x.code(0, 2), want == BAD ? 55 : want);
    }

    private static void lay() {
        says(29, "CELL i of a SHEET becomes v (its lowest bits): 1.");
        for (int lane = 0; lane < 3; lane++) {
            number(lane, 0, 0);
            number(lane, 99, 99);
            number(lane, -1, BAD);
            number(lane, 256 + 44, lane == 0 ? 44 : BAD);
            number(lane, 128, BAD);
            number(lane, -256 + 44, lane == 0 ? 44 : BAD);
            number(lane, 65536 + 44, lane < 2 ? 44 : BAD);
            number(lane, -65536 + 44, lane < 2 ? 44 : BAD);
            number(lane, 32768, lane == 0 ? 0 : BAD);
            number(lane, LOWEST, lane < 2 ? 0 : BAD);
            number(lane, LOWEST + 44, lane < 2 ? 44 : BAD);
            number(lane, HIGHEST, BAD);
        }
        GuardedCode x = told("put c 55;");
        x.sheet(0, 0, 40);
        due("the first CELL", x.lay(0, 0, 0), 1);
        lay(x, 0, 37, 0, 2, 88);
        due("up to the last", x.read(0, 0, 37, 1), 1);
        due("up to the last", x.code(0, 2), 88);
    }

    private static void layBad() {
        says(29, "BAD: k; -10 less the FAULT: NULL, INDEX.");
        GuardedCode x = new GuardedCode();
        due("SHEET 4", x.lay(4, 0, 0), BAD);
        due("SHEET -1", x.lay(-1, 0, 0), BAD);
        due("SHEET lowest", x.lay(LOWEST, -1, 0), BAD);
        due("SHEET highest", x.lay(HIGHEST, 99, 0), BAD);
        due("NULL", x.lay(0, 0, 0), -11);
        due("NULL ahead of INDEX", x.lay(0, -1, 0), -11);
        due("NULL ahead of INDEX", x.lay(0, 40, 0), -11);
        x.sheet(0, 1, 5);
        due("the last", x.lay(0, 4, 0), 1);
        due("beyond", x.lay(0, 5, 0), -12);
        due("below", x.lay(0, -1, 0), -12);
        due("lowest", x.lay(0, LOWEST, 0), -12);
        due("highest", x.lay(0, HIGHEST, 0), -12);
        x.sheet(0, 2, 0);
        due("of no CELLS", x.lay(0, 0, 0), -12);
        due("no read() found it", x.torn(), 0);
    }

    private static void read() {
        says(30, "n (0 to 13) times an INSTRUCTION, which of it (1 to 3), what it is to be are read of a SHEET taken as of a lane, three CELLS each from CELL f on, one behind another as by set(): how many came.");
        GuardedCode x = told(times(13, "put a 1;") + "add b c d;");
        for (int lane = 0; lane < 3; lane++) {
            x.sheet(lane, lane, 40);
            for (int m = 0; m < 13; m++) {
                lay(x, lane, 1 + 3 * m, m, 2, 10 * lane + m);
            }
            due("0", x.read(lane, lane, 1, 0), 0);
            due("0 change nothing", x.code(0, 2), lane == 0 ? 1 : 10 * (lane - 1));
            due("13", x.read(lane, lane, 1, 13), 13);
            due("torn", x.torn(), 0);
            due("the first", x.code(0, 2), 10 * lane);
            due("the last", x.code(12, 2), 10 * lane + 12);
        }
        x = told(ALL);
        x.sheet(0, 0, 40);
        lay(x, 0, 0, 0, 1, 7, 0, 2, 99, 1, 1, 6, 1, 2, 5, 1, 3, 4, 2, 1, 3, 2, 2, 10);
        due("each part of each KIND", x.read(0, 0, 0, 7), 7);
        codes(x, new int[][] {{0, 7, 99, NONE, 0}, {1, 6, 5, 4, 0}, {5, 3, 10, NONE, 0}});
        lay(x, 0, 0, 0, 2, 11, 0, 2, 12, 0, 2, 13);
        due("one behind another", x.read(0, 0, 0, 3), 3);
        due("the last stays", x.code(0, 2), 13);
        due("from a CELL on", x.read(0, 0, 3, 1), 1);
        due("from a CELL on", x.code(0, 2), 12);
        GuardedCode y = told(ALL);
        y.run(1, 2, 3, 4);
        y.sheet(0, 0, 3);
        lay(y, 0, 0, 0, 2, 50);
        y.read(0, 0, 0, 1);
        due("the RUN stays, as by set()", y.value(3), 4);
    }

    private static void reads(GuardedCode x, int[] asked, int came, int torn) {
        String what = "read(" + asked[0] + ", " + asked[1] + ", " + asked[2] + ", " + asked[3] + ")";
        due(what, x.read(asked[0], asked[1], asked[2], asked[3]), came);
        due("torn behind " + what, x.torn(), torn);
    }

    private static void readFaults() {
        says(30, "What the machine refuses: those that were whole ahead came (its FAULT is asked by torn()).");
        GuardedCode x = told(ALL);
        for (int lane = 0; lane < 3; lane++) {
            reads(x, new int[] {0, lane, 0, 1}, 0, 1);
        }
        reads(x, new int[] {0, 0, -1, 13}, 0, 1);
        x.sheet(0, 1, 8);
        reads(x, new int[] {0, 0, 0, 1}, 0, 3);
        reads(x, new int[] {0, 2, 0, 1}, 0, 3);
        reads(x, new int[] {0, 2, 99, 1}, 0, 3);
        lay(x, 0, 0, 0, 2, 44, 1, 3, 7, 0, 2);
        reads(x, new int[] {0, 1, 0, 3}, 2, 2);
        due("the first came", x.code(0, 2), 44);
        due("the second came", x.code(1, 3), 7);
        x.set(0, 2, 1);
        reads(x, new int[] {0, 1, 3, 13}, 1, 2);
        due("the first is not asked for", x.code(0, 2), 1);
        reads(x, new int[] {0, 1, 6, 1}, 0, 2);
        reads(x, new int[] {0, 1, 0, 2}, 2, 0);
        due("the first came", x.code(0, 2), 44);
        // the third has its first two CELLS, and those would be refused: but it is not whole
        lay(x, 0, 6, 99, 99);
        reads(x, new int[] {0, 1, 0, 3}, 2, 2);
        x.sheet(1, 0, 2);
        reads(x, new int[] {1, 0, 0, 1}, 0, 2);
        x.sheet(1, 0, 0);
        reads(x, new int[] {1, 0, 0, 1}, 0, 2);
    }

    private static void readWild() {
        GuardedCode x = told(ALL);
        x.sheet(0, 2, 40);
        lay(x, 0, 0, 0, 2, 44);
        lay(x, 0, 36, 0, 0, 2, 45);
        reads(x, new int[] {0, 2, 37, 1}, 1, 0);
        due("the last three", x.code(0, 2), 45);
        reads(x, new int[] {0, 2, 37, 13}, 1, 2);
        reads(x, new int[] {0, 2, 0, 1}, 1, 0);
        due("the first three", x.code(0, 2), 44);
        int[] wild = {38, 39, 40, -1, -2, -3, LOWEST, LOWEST + 1, HIGHEST, HIGHEST - 1, HIGHEST - 2, HIGHEST - 37, -39};
        for (int f : wild) {
            reads(x, new int[] {0, 2, 0, 1}, 1, 0);
            reads(x, new int[] {0, 2, f, 13}, 0, 2);
        }
        due("nothing came", x.code(0, 2), 44);
    }

    private static void readBad() {
        says(30, "BAD: k, lane, n;");
        GuardedCode x = told(ALL);
        x.sheet(0, 0, 40);
        x.read(1, 0, 0, 1);
        due("SHEET 4", x.read(4, 0, 0, 1), BAD);
        due("SHEET -1", x.read(-1, 0, 0, 1), BAD);
        due("SHEET lowest", x.read(LOWEST, 0, 0, 1), BAD);
        due("lane 3", x.read(0, 3, 0, 1), BAD);
        due("lane -1", x.read(0, -1, 0, 1), BAD);
        due("lane highest", x.read(0, HIGHEST, 0, 1), BAD);
        due("n 14", x.read(0, 0, 0, 14), BAD);
        due("n -1", x.read(0, 0, 0, -1), BAD);
        due("n lowest", x.read(0, 0, 0, LOWEST), BAD);
        due("n highest", x.read(0, 0, 0, HIGHEST), BAD);
        due("ahead of NULL", x.read(1, 3, 0, 1), BAD);
        due("ahead of CAST", x.read(0, 1, 0, 14), BAD);
        due("ahead of INDEX", x.read(0, 0, 40, 14), BAD);
        due("with n 0: SHEET", x.read(4, 0, 0, 0), BAD);
        due("with n 0: lane", x.read(0, 3, 0, 0), BAD);
        due("torn() stays", x.torn(), 1);
    }

    private static void readRefused() {
        says(30, "-20 less i: the i-th, whole, is refused by set(): then none came; the first met.");
        GuardedCode x = told(times(13, "put a 1;"));
        x.sheet(0, 0, 40);
        for (int m = 0; m < 13; m++) {
            lay(x, 0, 3 * m, m, 2, 20 + m);
        }
        for (int i = 12; i >= 0; i--) {
            lay(x, 0, 3 * i + 1, 3);
            due("the " + i + "-th", x.read(0, 0, 0, 13), -20 - i);
            due("none came", x.code(0, 2), 1);
            due("none came", x.code(12, 2), 1);
            due("the first met", x.read(0, 0, 3 * i, 13 - i), -20);
        }
        int[][] refused = {{3, 1, 0}, {-1, 1, 0}, {0, 0, 0}, {0, 4, 0}, {0, 3, 0}, {2, 3, 0}, {0, 1, 8}, {0, 1, -1}, {0, 2, 100}, {2, 2, 11}, {1, 3, 8}, {1, 2, 8}};
        for (int[] change : refused) {
            GuardedCode y = told(ALL);
            y.sheet(3, 1, 8);
            lay(y, 3, 0, 0, 2, 44);
            lay(y, 3, 3, change);
            due("refused by set()", y.set(change[0], change[1], change[2]), BAD);
            due("the second", y.read(3, 1, 0, 2), -21);
            due("then none came", y.code(0, 2), 1);
            due("ahead of INDEX", y.read(3, 1, 0, 3), -21);
            due("then none came", y.code(0, 2), 1);
            due("not asked for", y.read(3, 1, 0, 1), 1);
        }
        GuardedCode none = new GuardedCode();
        none.sheet(0, 0, 3);
        due("of a text of nothing", none.read(0, 0, 0, 1), -20);
        due("of a text of nothing, INDEX", none.read(0, 0, 1, 1), 0);
        due("of a text of nothing, INDEX", none.torn(), 2);
    }

    private static void torn() {
        says(31, "The FAULT of the latest read() that came to an end; 0.");
        GuardedCode x = told(ALL);
        due("at first", x.torn(), 0);
        reads(x, new int[] {0, 0, 0, 1}, 0, 1);
        due("again", x.torn(), 1);
        x.read(0, 0, 0, 14);
        due("one that is BAD came to none", x.torn(), 1);
        x.sheet(0, 0, 3);
        due("refused", x.read(0, 0, 0, 1), -20);
        due("one that is refused came to none", x.torn(), 1);
        x.sheet(0, 0, -1);
        x.lay(0, 3, 0);
        x.lay(3, 0, 0);
        due("other calls that the machine refuses leave it", x.torn(), 1);
        reads(x, new int[] {0, 0, 1, 1}, 0, 2);
        reads(x, new int[] {0, 2, 0, 1}, 0, 3);
        x.text();
        x.keep(0);
        x.back(0);
        x.run(1, 1, 1, 1);
        due("a text and others leave it", x.torn(), 3);
        reads(x, new int[] {0, 0, 0, 0}, 0, 0);
        tell(x, ALL);
        reads(x, new int[] {0, 2, 0, 1}, 0, 3);
        lay(x, 0, 0, 0, 2, 9);
        reads(x, new int[] {0, 0, 0, 1}, 1, 0);
    }

    private static void count() {
        says(32, "How many: 0 IMAGES, 1 INSTRUCTIONS that are div, 2 bytes on THE TAPE, 3 CELLS of SHEET 0 (NONE: nothing), 4 NUMBERS of all put, summed, 5 TENTHS of all IFS.");
        GuardedCode x = told("div a b c;put a 30;if d 4{put e 12;div f f f;if g 7{}{}}{}add h h h;");
        int[] counts = {0, 2, 0, NONE, 42, 11};
        for (int w = 0; w < counts.length; w++) {
            due("count(" + w + ")", x.count(w), counts[w]);
        }
        x.keep(1);
        due("IMAGES", x.count(0), 1);
        x.keep(0);
        due("IMAGES", x.count(0), 2);
        x.turn(0, 1);
        x.turn(6, 4);
        x.turn(4, 1);
        due("divs", x.count(1), 1);
        x.sheet(1, 0, 5);
        due("of SHEET 0 alone", x.count(3), NONE);
        x.sheet(0, 0, 0);
        due("of no CELLS", x.count(3), 0);
        x.sheet(0, 2, 40);
        due("of 40 CELLS", x.count(3), 40);
        x.text();
        int[] behind = {0, 0, 0, 40, 0, 0};
        for (int w = 0; w < behind.length; w++) {
            due("count(" + w + ") of nothing", x.count(w), behind[w]);
        }
        due("NUMBERS of 24", told(times(24, "put a 99;")).count(4), 2376);
        due("TENTHS of six", told(times(6, "if a 10{}{}")).count(5), 60);
        due("divs of 24", told(times(24, "div a a a;")).count(1), 24);
        GuardedCode y = new GuardedCode();
        Check.feedAll(y, times(321, "a"));
        due("bytes", y.count(2), 320);
        y.end(7);
        due("bytes", y.count(2), 7);
    }

    private static void countBad() {
        says(32, "BAD.");
        GuardedCode x = new GuardedCode();
        due("6", x.count(6), BAD);
        due("-1", x.count(-1), BAD);
        due("lowest", x.count(LOWEST), BAD);
        due("highest", x.count(HIGHEST), BAD);
    }
}
