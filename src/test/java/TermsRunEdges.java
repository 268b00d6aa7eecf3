/** "Terms", the second part: RUNS, what they cost, FREE IFS, SHEETS. */
final class TermsRunEdges extends Edges {
    static void all() {
        beginOfRun();
        byOrder();
        beyond();
        div();
        ifOfRun();
        costs();
        means();
        wishes();
        guardedByCost();
        spent();
        freeIfs();
        live();
        sheets();
    }

    private static void beginOfRun() {
        says(0, "A RUN begins with four numbers in VARIABLES a to d, 0 in the others.");
        GuardedCode x = told("add e e a;add f f b;add g g c;add h h d;");
        for (int twice = 0; twice < 2; twice++) {
            x.run(LOWEST, HIGHEST, -1, 1);
            int[] want = {LOWEST, HIGHEST, -1, 1, LOWEST, HIGHEST, -1, 1};
            for (int v = 0; v < 8; v++) {
                due("value(" + v + ")", x.value(v), want[v]);
            }
        }
        // by a seed, too: f is 0, so that a div STOPS if e is not
        GuardedCode y = told("if e 5{div a b f;}{put e 7;}");
        due("by a seed", y.runs(9, 100, 0), 100);
        due("by a seed, again", y.runs(9, 100, 0), 100);
    }

    private static void byOrder() {
        says(0, "INSTRUCTIONS by order, each is DONE, if its GUARD holds then.");
        GuardedCode x = told("put e 1;add f e e;put e 5;if e 5{put e 0;put g 3;}{put h 4;}if e 5{put g 9;}{add h h f;}");
        due("DONE", x.run(0, 0, 0, 0), 8);
        due("by order", x.value(5), 2);
        due("a GUARD holds by what was when its if was DONE", x.value(6), 3);
        due("the next if by what is then", x.value(7), 2);
        due("e", x.value(4), 0);
        due("with no INSTRUCTIONS none is DONE", new GuardedCode().run(1, 1, 1, 1), 0);
    }

    private static void beyond() {
        says(0, "put, add, sub, mul by 32 bits (what is beyond lost);");
        GuardedCode x = told("add e a b;sub f a b;mul g a b;");
        int[][] rows = {
            {HIGHEST, 1, LOWEST, HIGHEST - 1, HIGHEST},
            {HIGHEST, -1, HIGHEST - 1, LOWEST, -HIGHEST},
            {LOWEST, -1, HIGHEST, LOWEST + 1, LOWEST},
            {LOWEST, 1, LOWEST + 1, HIGHEST, LOWEST},
            {LOWEST, LOWEST, 0, 0, 0},
            {HIGHEST, HIGHEST, -2, 0, 1},
            {65536, 65536, 131072, 0, 0},
            {65537, 65535, 131072, 2, -1},
            {-65536, 32768, -32768, -98304, LOWEST},
        };
        for (int[] row : rows) {
            due("run", x.run(row[0], row[1], 0, 0), 3);
            due("add " + row[0] + " " + row[1], x.value(4), row[2]);
            due("sub " + row[0] + " " + row[1], x.value(5), row[3]);
            due("mul " + row[0] + " " + row[1], x.value(6), row[4]);
        }
    }

    private static void div() {
        says(0, "div the quotient (towards 0; what is beyond lost), by 0: it is not DONE, the RUN STOPS.");
        GuardedCode x = told("div e a b;");
        int[][] rows = {{7, 2, 3}, {-7, 2, -3}, {7, -2, -3}, {-7, -2, 3}, {1, 2, 0}, {-1, 2, 0}, {0, 5, 0}, {9, 1, 9}, {9, -1, -9},
            {LOWEST, -1, LOWEST}, {LOWEST, 1, LOWEST}, {HIGHEST, -1, -HIGHEST}, {LOWEST, HIGHEST, -1}, {LOWEST, LOWEST, 1}};
        for (int[] row : rows) {
            due("run", x.run(row[0], row[1], 0, 0), 1);
            due("div " + row[0] + " " + row[1], x.value(4), row[2]);
        }
        x = told("put e 5;put f 6;div e a b;put f 7;");
        due("by 0", x.run(9, 0, 0, 0), -12);
        due("it is not DONE", x.value(4), 5);
        due("what is behind is not", x.value(5), 6);
        due("0 by 0", x.run(0, 0, 0, 0), -12);
        due("by another than 0", x.run(0, -1, 0, 0), 4);
        x = told("if a 5{div e b b;}{}if a 5{}{div e c c;}");
        due("where its GUARD does not hold", x.run(1, 1, 0, 0), 3);
        due("where its GUARD does not hold", x.run(0, 0, 1, 0), 3);
        due("where it does", x.run(1, 0, 1, 0), -11);
        due("where it does", x.run(0, 1, 0, 0), -13);
    }

    private static void ifOfRun() {
        says(0, "if: yes holds, if VARIABLE is above 0, else no does; is it not DONE, neither holds.");
        GuardedCode x = told("if a 5{put e 1;}{put e 2;put f 2;}");
        int[] yes = {1, 2, HIGHEST};
        for (int a : yes) {
            due("DONE with " + a, x.run(a, 0, 0, 0), 2);
            due("yes with " + a, x.value(4), 1);
        }
        int[] no = {0, -1, LOWEST};
        for (int a : no) {
            due("DONE with " + a, x.run(a, 0, 0, 0), 3);
            due("no with " + a, x.value(4), 2);
        }
        x = told("if a 5{if b 5{put e 1;}{put e 2;}put f 3;}{}put g 4;");
        due("DONE", x.run(0, 1, 0, 0), 2);
        due("neither yes", x.value(4), 0);
        due("DONE", x.run(0, 0, 0, 0), 2);
        due("nor no", x.value(4), 0);
        due("DONE", x.run(1, 0, 0, 0), 5);
        due("no", x.value(4), 2);
        x = told("if a 5{}{if b 5{put e 1;}{put e 2;}}");
        x.run(1, 0, 0, 0);
        due("in no, too", x.value(4), 0);
    }

    private static void costs() {
        says(0, "COST of put, add, sub, mul 1, of div 4.");
        GuardedCode x = told("put a 1;add a a a;sub a a a;mul a a a;div a b b;");
        int[] cost = {1, 1, 1, 1, 4};
        for (int i = 0; i < 5; i++) {
            due("FLAT of " + i, x.code(i, 5), cost[i]);
        }
        x.run(1, 1, 1, 1);
        due("spent", x.spent(), 8);
        mean(x, 8, 1);
        says(0, "An IF is GUARDED or JUMPED.");
        x = told("if a 5{}{}");
        due("GUARDED", x.wish(0, 1), 1);
        x.want(0, 0);
        due("JUMPED", x.wish(0, 1), 0);
        says(0, "FLAT of an INSTRUCTION: its COST; of an if: 1 and FLAT of all in both SIDES.");
        x = told("if a 5{}{}if b 0{put a 1;div a a a;}{if c 10{div a a a;}{mul b b b;}sub c c c;}");
        int[] flats = {1, 13, 1, 4, 6, 4, 1, 1};
        for (int i = 0; i < flats.length; i++) {
            due("FLAT of " + i, x.code(i, 5), flats[i]);
        }
        due("FLAT of all", x.rule(5), 14);
        due("FLAT of nothing", new GuardedCode().rule(5), 0);
        x.want(1, 0);
        due("whether it is JUMPED or not", x.code(1, 5), 13);
        GuardedCode dearest = told(times(23, "div a a a;") + "if a 1{}{}");
        due("FLAT of 24", dearest.rule(5), 93);
    }

    private static void means() {
        says(0, "MEAN of an INSTRUCTION: its COST; of an if that is GUARDED: FLAT; JUMPED: 4, MEANS of all in yes by TENTHS of ten, in no by the others.");
        mean(told("put a 1;"), 1, 1);
        mean(told("div a a a;"), 4, 1);
        for (int tenths = 0; tenths <= 10; tenths++) {
            GuardedCode x = told("if a " + tenths + "{put b 1;div b b b;put b 2;}{put c 1;}");
            x.want(0, 1);
            mean(x, 8, 1);
            x.want(0, 0);
            long sum = 40 + 6 * tenths + (10 - tenths);
            long common = sum % 10 == 0 ? 10 : sum % 5 == 0 ? 5 : sum % 2 == 0 ? 2 : 1;
            mean(x, sum / common, 10 / common);
        }
        // no more than six may be within one another: 4.4 and 4.04 of 4 each, and 1 in a million
        GuardedCode deep = told("if a 1{if a 1{if a 1{if a 1{if a 1{if a 1{put h 1;}{}}{}}{}}{}}{}}{}");
        for (int j = 0; j < 6; j++) {
            deep.want(j, 0);
        }
        mean(deep, 4444441, 1000000);
        GuardedCode inner = told("if a 5{if b 5{put c 1;}{}}{}");
        inner.want(0, 0);
        inner.want(1, 1);
        mean(inner, 5, 1);
        inner.want(1, 0);
        mean(inner, 25, 4);
    }

    private static void wishes() {
        says(0, "WISH of an IF (0 jump, 1 guard, 2 by what it costs; 2 at first).");
        // 9 to 8: by what it costs it is JUMPED
        GuardedCode dear = told("if a 5{div a a a;}{div a a a;}");
        due("at first", dear.wish(0, 0), 2);
        due("by what it costs", dear.wish(0, 1), 0);
        dear.want(0, 1);
        due("guard", dear.wish(0, 1), 1);
        dear.want(0, 2);
        due("by what it costs again", dear.wish(0, 1), 0);
        // 1 to 4: by what it costs it is GUARDED
        GuardedCode cheap = told("if a 5{}{}");
        due("by what it costs", cheap.wish(0, 1), 1);
        cheap.want(0, 0);
        due("jump", cheap.wish(0, 1), 0);
        cheap.want(0, 2);
        due("by what it costs again", cheap.wish(0, 1), 1);
        says(0, "An IF is GUARDED, if it is in a SIDE of one that is, or by its WISH;");
        GuardedCode x = told("if a 5{if b 5{}{if c 5{}{}}}{if d 5{}{}}if e 5{}{}");
        for (int j = 0; j < 5; j++) {
            x.want(j, 0);
        }
        due("none", x.rule(4), 0);
        x.want(0, 1);
        for (int j = 0; j < 5; j++) {
            due("in a SIDE of 0: " + j, x.wish(j, 1), j < 4 ? 1 : 0);
        }
        due("four", x.rule(4), 4);
        x.want(0, 0);
        x.want(1, 1);
        for (int j = 0; j < 5; j++) {
            due("in a SIDE of 1: " + j, x.wish(j, 1), j == 1 || j == 2 ? 1 : 0);
        }
        x.want(1, 0);
        x.want(3, 1);
        for (int j = 0; j < 5; j++) {
            due("in a SIDE of 3: " + j, x.wish(j, 1), j == 3 ? 1 : 0);
        }
        guardedWithin("if a 1{if a 1{if a 1{if a 1{if a 1{if a 1{}{}}{}}{}}{}}{}}{}");
        guardedWithin("if a 1{}{if a 1{}{if a 1{}{if a 1{}{if a 1{}{if a 1{}{}}}}}}");
    }

    /** Six within one another, all to be JUMPED but one: those in it are GUARDED, those around it not. */
    private static void guardedWithin(String six) {
        GuardedCode x = told(six);
        for (int j = 0; j < 6; j++) {
            x.want(j, 0);
        }
        for (int one = 0; one < 6; one++) {
            x.want(one, 1);
            for (int j = 0; j < 6; j++) {
                due(j + " with " + one + " GUARDED", x.wish(j, 1), j >= one ? 1 : 0);
            }
            x.want(one, 0);
        }
    }

    private static void byCost(String text, int guarded) {
        due(text, told(text).wish(0, 1), guarded);
    }

    private static void guardedByCost() {
        says(0, "by 2: if its FLAT is no more than its MEAN would be, JUMPED, with all IFS in it as they would be then.");
        // 1 and n in yes to 4 and n by TENTHS: as much at 3 of TENTHS 0, 6 of 5, 15 of 8
        byCost("if a 0{" + times(3, "put b 1;") + "}{}", 1);
        byCost("if a 0{" + times(4, "put b 1;") + "}{}", 0);
        byCost("if a 5{" + times(6, "put b 1;") + "}{}", 1);
        byCost("if a 5{" + times(7, "put b 1;") + "}{}", 0);
        byCost("if a 8{" + times(15, "put b 1;") + "}{}", 1);
        byCost("if a 8{" + times(16, "put b 1;") + "}{}", 0);
        byCost("if a 2{}{" + times(15, "put b 1;") + "}", 1);
        byCost("if a 2{}{" + times(16, "put b 1;") + "}", 0);
        byCost("if a 10{" + times(23, "put b 1;") + "}{}", 1);
        byCost("if a 10{}{" + times(3, "put b 1;") + "}", 1);
        byCost("if a 10{}{" + times(4, "put b 1;") + "}", 0);
        // a tenth decides: 8 to 4 and 4, 8 to 4 and 3.6 and 0.3
        byCost("if a 10{put b 1;put b 2;put b 3;put b 4;}{put b 5;put b 6;put b 7;}", 1);
        byCost("if a 9{put b 1;put b 2;put b 3;put b 4;}{put b 5;put b 6;put b 7;}", 0);
        // by what the inner is, GUARDED or JUMPED, the outer is, too
        GuardedCode x = told("if a 5{if b 10{}{put c 1;}}{put c 1;put c 2;put c 3;put c 4;put c 5;}");
        due("8 to 4 and 1 and 2.5", x.wish(0, 1), 0);
        due("the inner by itself", x.wish(1, 1), 1);
        x.want(1, 0);
        due("8 to 4 and 2 and 2.5", x.wish(0, 1), 1);
        due("the inner in a SIDE of one that is", x.wish(1, 1), 1);
        due("its WISH stays", x.wish(1, 0), 0);
        x.want(0, 0);
        due("the inner by its WISH", x.wish(1, 1), 0);
        mean(x, 17, 2);
    }

    private static void spent() {
        says(0, "SPENT by a RUN: COST of each that is DONE (also of the div that STOPS it), and of each that stands in a SIDE of a GUARDED IF that is come to, DONE or not;");
        GuardedCode x = told("div e a a;put f 1;");
        x.run(2, 0, 0, 0);
        due("DONE", x.spent(), 5);
        x.run(0, 0, 0, 0);
        due("the div that STOPS it", x.spent(), 4);
        x = told("if a 5{if b 5{put e 1;put e 2;}{div e c c;}}{mul f f f;}");
        x.want(0, 0);
        x.want(1, 1);
        x.run(0, 0, 0, 0);
        due("GUARDED, not come to", x.spent(), 4 + 1);
        x.run(1, 1, 0, 0);
        due("GUARDED, come to", x.spent(), 4 + 1 + 2 + 4);
        x.want(0, 1);
        x.run(0, 1, 1, 1);
        due("not DONE, within one another", x.spent(), 1 + 1 + 2 + 4 + 1);
        x.run(1, 0, 1, 1);
        due("whichever is DONE", x.spent(), 9);
        x = new GuardedCode();
        x.run(1, 1, 1, 1);
        due("nothing", x.spent(), 0);
        says(0, "for an if 4, if it is JUMPED, 1 if it is GUARDED.");
        x = told("if a 5{if b 5{}{}}{}");
        x.want(0, 0);
        x.want(1, 0);
        x.run(1, 0, 0, 0);
        due("4 and 4", x.spent(), 8);
        x.run(0, 0, 0, 0);
        due("4, the inner is not DONE", x.spent(), 4);
        x.want(1, 1);
        x.run(1, 0, 0, 0);
        due("4 and 1", x.spent(), 5);
        x.want(0, 1);
        x.run(0, 0, 0, 0);
        due("1 and 1", x.spent(), 2);
        says(0, "(A STOP ends that, too.)");
        x = told("if a 5{put e 1;div e b b;put e 2;}{put f 1;put f 2;}put g 1;");
        x.want(0, 1);
        x.run(1, 0, 0, 0);
        due("in yes", x.spent(), 1 + 1 + 4);
        x.run(0, 0, 0, 0);
        due("no STOP", x.spent(), 1 + 1 + 4 + 1 + 2 + 1);
        x = told("if a 5{put e 1;put e 2;}{div e b b;put f 1;}put g 1;");
        x.want(0, 1);
        x.run(0, 0, 0, 0);
        due("in no: yes has been gone over", x.spent(), 1 + 2 + 4);
    }

    private static void freeIfs() {
        says(0, "By FREE IFS: each IF may go either way, whatever its VARIABLE has.");
        GuardedCode x = told("put a 1;if a 10{put b 1;}{put c 1;}if a 0{add c b b;}{add b c c;}");
        due("a way that no RUN goes", x.apart(2, 3), 0);
        due("a way that no RUN goes", x.apart(1, 4), 0);
        due("of one VARIABLE", x.cover(1, 1 << 3), 0);
        due("of one VARIABLE", x.cover(2, 1 << 4), 0);
        due("either way", x.cover(0, 1 << 1), 0);
        due("either way", x.cover(0, 1 << 2), 0);
        due("one of both ways", x.cover(0, 1 << 1 | 1 << 2), 1);
        x.out(0);
        due("LIVE by a way that no RUN goes", x.live(3), 1);
        due("LIVE by a way that RUNS go", x.live(2), 1);
    }

    private static void liveBy(String text, int out, int i, int live) {
        GuardedCode x = told(text);
        x.out(out);
        due("live(" + i + ") of " + text + " with " + out, x.live(i), live);
    }

    private static void live() {
        says(0, "An INSTRUCTION (no if) is LIVE, if by some ways of FREE IFS it is DONE, and its TARGET is read by one that is DONE behind it (as a VARIABLE; of an if, too)");
        liveBy("put a 1;add b a c;", 0, 0, 1);
        liveBy("put a 1;add b c a;", 0, 0, 1);
        liveBy("put a 1;add b c d;", 0, 0, 0);
        liveBy("put a 1;if a 5{}{}", 0, 0, 1);
        liveBy("put a 1;if b 5{}{}", 0, 0, 0);
        liveBy("put a 1;put b 0;", 0, 0, 0);
        liveBy("add b a a;put a 1;", 0, 1, 0);
        liveBy("if b 5{put a 1;}{add c a a;}", 0, 1, 0);
        liveBy("if b 5{put a 1;}{if a 5{}{}}", 0, 1, 0);
        liveBy("if b 5{put a 1;add c a a;}{}", 0, 1, 1);
        liveBy("put h 1;sub g h h;", 0, 0, 1);
        liveBy("put h 1;div g a h;", 0, 0, 1);
        due("an if", told("if a 5{}{}").live(0), BAD);
        says(0, "ahead of being a TARGET again of one that is DONE,");
        liveBy("put a 1;put a 2;add b a a;", 0, 0, 0);
        liveBy("put a 1;add a a b;", 0, 0, 1);
        liveBy("put a 1;add a b c;", 255, 0, 0);
        liveBy("put a 1;if b 5{put a 2;}{}add c a a;", 0, 0, 1);
        liveBy("put a 1;if b 5{put a 2;}{put a 3;}add c a a;", 0, 0, 0);
        liveBy("put a 1;if b 5{if c 5{put a 2;}{}}{put a 3;}add c a a;", 0, 0, 1);
        liveBy("put a 1;if b 5{if c 5{put a 2;}{put a 4;}}{put a 3;}add c a a;", 0, 0, 0);
        liveBy("add a a a;", 0, 0, 0);
        says(0, "or is not such a TARGET again and is in OUT.");
        liveBy("put a 1;", 1, 0, 1);
        liveBy("put a 1;", 254, 0, 0);
        liveBy("put h 1;", 128, 0, 1);
        liveBy("put h 1;", 127, 0, 0);
        liveBy("put a 1;put a 2;", 1, 0, 0);
        liveBy("put a 1;if b 5{}{put a 2;}", 1, 0, 1);
        liveBy("put a 1;if b 5{put a 2;}{}", 1, 0, 1);
        liveBy("put a 1;if b 5{put a 3;}{put a 2;}", 1, 0, 0);
        liveBy("if b 5{}{put a 2;}", 1, 1, 1);
        liveBy("if b 5{put a 2;}{}", 1, 1, 1);
    }

    private static void sheets() {
        says(0, "SHEETS 0 to 3 are rows of BYTES (lane 0), SHORTS (1), INTS (2) with 0 to 40 CELLS, or nothing (at first).");
        GuardedCode x = new GuardedCode();
        for (int k = 0; k < 4; k++) {
            due("nothing at first", x.lay(k, 0, 0), -11);
            for (int lane = 0; lane < 3; lane++) {
                due("of 40", x.sheet(k, lane, 40), 1);
                due("the last CELL", x.lay(k, 39, 0), 1);
                due("beyond it", x.lay(k, 40, 0), -12);
                due("of 0", x.sheet(k, lane, 0), 1);
                due("no CELL", x.lay(k, 0, 0), -12);
            }
        }
        due("no such lane", x.sheet(0, 3, 1), BAD);
        due("no such SHEET", x.sheet(4, 0, 1), BAD);
        due("of 41", x.sheet(0, 0, 41), BAD);
        says(0, "A FAULT is what the machine finds: 1 NULL (nothing), 2 INDEX, 3 CAST (another lane), 4 SIZE (below 0).");
        x = told("put a 1;");
        x.read(0, 0, 0, 1);
        due("NULL", x.torn(), 1);
        due("SIZE", x.sheet(0, 0, -1), -14);
        x.sheet(0, 0, 2);
        x.read(0, 0, 0, 1);
        due("INDEX", x.torn(), 2);
        x.read(0, 1, 0, 1);
        due("CAST", x.torn(), 3);
    }
}
