/** Promises 24 to 27: what is changed, images. */
final class ChangeEdges extends Edges {
    private static final String ALL_KINDS = "put a 1;add b c d;sub b c d;mul b c d;div b c d;if e 5{}{}";

    static void all() {
        set();
        setBad();
        turn();
        turnBad();
        keep();
        back();
    }

    /** The greatest that a part of an INSTRUCTION of a KIND may be; BAD: it has none. */
    private static int most(int kind, int what) {
        if (what == 1) {
            return 7;
        }
        if (kind == 0 || kind == 5) {
            return what == 3 ? BAD : kind == 0 ? 99 : 10;
        }
        return 7;
    }

    private static void set() {
        says(24, "TARGET (of an if VARIABLE), the second, the third (what 1 to 3, as of code()) of an INSTRUCTION becomes v: what it was.");
        GuardedCode x = told(ALL_KINDS);
        for (int i = 0; i < 6; i++) {
            for (int what = 1; what <= 3; what++) {
                int most = most(i, what);
                if (most != BAD) {
                    int was = x.code(i, what);
                    due("the greatest", x.set(i, what, most), was);
                    due("it is", x.code(i, what), most);
                    due("the least", x.set(i, what, 0), most);
                    due("it is", x.code(i, what), 0);
                    due("itself", x.set(i, what, 0), 0);
                }
            }
        }
        due("none other became it", x.rule(0), 6);
        x = told("put a 1;add b c d;if e 5{}{}");
        x.set(1, 2, 6);
        codes(x, new int[][] {{0, 0, 1, NONE, 0}, {1, 1, 6, 3, 0}, {5, 4, 5, NONE, 0}});
        x = told("if a 5{put e 1;}{put e 2;}");
        x.set(0, 1, 1);
        x.run(0, 1, 0, 0);
        due("a RUN goes by it", x.value(4), 1);
        x.set(0, 2, 10);
        odds(x, 2, 0, 1);
    }

    private static void setBad() {
        says(24, "BAD: also 3 of put, if.");
        GuardedCode x = told(ALL_KINDS);
        due("3 of put", x.set(0, 3, 0), BAD);
        due("3 of if", x.set(5, 3, 0), BAD);
        for (int i = 0; i < 6; i++) {
            for (int what = 1; what <= 3; what++) {
                int was = x.code(i, what);
                due("above", x.set(i, what, most(i, what) + 1), BAD);
                due("below", x.set(i, what, -1), BAD);
                due("lowest", x.set(i, what, LOWEST), BAD);
                due("highest", x.set(i, what, HIGHEST), BAD);
                due("it stays", x.code(i, what), was);
            }
            due("what 0", x.set(i, 0, 0), BAD);
            due("what 4", x.set(i, 4, 0), BAD);
            due("what -1", x.set(i, -1, 0), BAD);
        }
        due("beyond the last", x.set(6, 1, 0), BAD);
        due("below", x.set(-1, 1, 0), BAD);
        due("lowest", x.set(LOWEST, 1, 0), BAD);
        due("highest", x.set(HIGHEST, 1, 0), BAD);
        due("of a text of nothing", new GuardedCode().set(0, 1, 0), BAD);
        due("of none but an answer of none", x.set(0, 2, NONE), BAD);
    }

    private static void turn() {
        says(25, "KIND of an INSTRUCTION of KIND 1 to 4 becomes k (1 to 4): what it was.");
        GuardedCode x = told(ALL_KINDS);
        for (int i = 1; i <= 4; i++) {
            int was = i;
            for (int k = 1; k <= 4; k++) {
                due("turn(" + i + ", " + k + ")", x.turn(i, k), was);
                due("it is", x.code(i, 0), k);
                due("its FLAT", x.code(i, 5), k == 4 ? 4 : 1);
                was = k;
            }
        }
        codes(x, new int[][] {{0, 0, 1, NONE, 0}, {4, 1, 2, 3, 0}, {4, 1, 2, 3, 0}, {4, 1, 2, 3, 0}, {4, 1, 2, 3, 0}, {5, 4, 5, NONE, 0}});
        due("divs", x.count(1), 4);
        GuardedCode y = told("add e a b;");
        int[] values = {9, 3, 18, 2};
        for (int k = 1; k <= 4; k++) {
            y.turn(0, k);
            y.run(6, 3, 0, 0);
            due("a RUN goes by it", y.value(4), values[k - 1]);
        }
        due("a div may STOP it", y.run(6, 0, 0, 0), -10);
    }

    private static void turnBad() {
        says(25, "BAD.");
        GuardedCode x = told(ALL_KINDS);
        for (int k = -1; k <= 6; k++) {
            due("a put", x.turn(0, k), BAD);
            due("an if", x.turn(5, k), BAD);
            due("beyond the last", x.turn(6, k), BAD);
            due("below", x.turn(-1, k), BAD);
        }
        for (int i = 1; i <= 4; i++) {
            due("to put", x.turn(i, 0), BAD);
            due("to if", x.turn(i, 5), BAD);
            due("below", x.turn(i, -1), BAD);
            due("lowest", x.turn(i, LOWEST), BAD);
            due("highest", x.turn(i, HIGHEST), BAD);
            due("it stays", x.code(i, 0), i);
        }
        due("lowest", x.turn(LOWEST, 1), BAD);
        due("highest", x.turn(HIGHEST, 1), BAD);
        due("of a text of nothing", new GuardedCode().turn(0, 1), BAD);
    }

    private static void keep() {
        says(26, "IMAGE k (0, 1) is all INSTRUCTIONS, WISHES, OUT: whether there was one (1, 0).");
        GuardedCode x = told("if a 5{put b 1;}{add c d e;}");
        x.want(0, 0);
        x.out(5);
        for (int k = 0; k < 2; k++) {
            due("there was none", x.keep(k), 0);
            due("there was one", x.keep(k), 1);
            due("how many", x.count(0), k + 1);
        }
        x.set(1, 2, 77);
        x.want(0, 1);
        x.out(9);
        due("the latest is kept", x.keep(1), 1);
        x.turn(2, 4);
        x.out(1);
        x.back(0);
        codes(x, new int[][] {{5, 0, 5, NONE, 0}, {0, 1, 1, NONE, 1}, {1, 2, 3, 4, 2}});
        due("WISH", x.wish(0, 0), 0);
        due("OUT", x.rule(3), 5);
        x.back(1);
        codes(x, new int[][] {{5, 0, 5, NONE, 0}, {0, 1, 77, NONE, 1}, {1, 2, 3, 4, 2}});
        due("WISH", x.wish(0, 0), 1);
        due("OUT", x.rule(3), 9);
        x.text();
        due("there was none behind a text", x.keep(0), 0);
        due("there was none behind a text", x.keep(1), 0);
        due("of nothing", x.back(1), 0);
        says(26, "BAD.");
        due("2", x.keep(2), BAD);
        due("-1", x.keep(-1), BAD);
        due("lowest", x.keep(LOWEST), BAD);
        due("highest", x.keep(HIGHEST), BAD);
    }

    private static void back() {
        says(27, "All is as IMAGE k (there was no RUN): INSTRUCTIONS.");
        GuardedCode x = told("put a 1;if a 5{put b 1;}{put b 1;}put b 2;put b 3;");
        x.keep(0);
        due("swept", x.sweep(), 3);
        x.keep(1);
        x.run(1, 2, 3, 4);
        due("all", x.back(0), 6);
        due("no RUN", x.spent(), NONE);
        due("no RUN", x.value(3), 0);
        codes(x, new int[][] {{0, 0, 1, NONE, 0}, {5, 0, 5, NONE, 0}, {0, 1, 1, NONE, 1}, {0, 1, 1, NONE, 2}, {0, 1, 2, NONE, 0}, {0, 1, 3, NONE, 0}});
        due("the if", x.guard(1, 1), 1);
        x.merge();
        x.want(0, 0);
        due("the IMAGE is as it was", x.back(0), 6);
        due("the IMAGE is as it was", x.wish(0, 0), 2);
        due("the other", x.back(1), 3);
        due("fewer", x.code(3, 0), BAD);
        due("IMAGES stay", x.count(0), 2);
        GuardedCode y = new GuardedCode();
        y.keep(0);
        due("of nothing", y.back(0), 0);
        says(27, "BAD; STATE: there is none.");
        due("2", x.back(2), BAD);
        due("-1", x.back(-1), BAD);
        due("lowest", x.back(LOWEST), BAD);
        due("highest", x.back(HIGHEST), BAD);
        due("the other is none", y.back(1), STATE);
        y.run(1, 2, 3, 4);
        due("still none", y.back(1), STATE);
        due("the RUN stays", y.value(3), 4);
        due("at first", new GuardedCode().back(0), STATE);
        due("at first", new GuardedCode().back(1), STATE);
        y.text();
        due("gone by a text", y.back(0), STATE);
        x.text();
        due("gone by a text", x.back(0), STATE);
        due("gone by a text", x.back(1), STATE);
    }
}
