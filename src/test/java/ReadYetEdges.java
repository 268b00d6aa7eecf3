/** Promises 20 to 23: what is read yet. */
final class ReadYetEdges extends Edges {
    static void all() {
        live();
        out();
        sweep();
        sweepOn();
        mergeFinds();
        mergeMoves();
        mergeOn();
    }

    private static void live() {
        says(20, "Whether an INSTRUCTION is LIVE (1, 0).");
        GuardedCode x = told("put a 1;put a 2;if b 5{div c a a;}{}put a 3;");
        int[] want = {0, 1, BAD, 1, 1};
        for (int i = 0; i < want.length; i++) {
            due("live(" + i + ")", x.live(i), want[i]);
        }
        x.out(250);
        due("a div that is not", x.live(3), 0);
        due("the last that is not", x.live(4), 0);
        GuardedCode most = told(times(24, "put a 1;"));
        due("the first of 24", most.live(0), 0);
        due("the 24th", most.live(23), 1);
        // of six IFS one way alone leaves it to be read
        GuardedCode y = told("put a 1;" + times(5, "if b 1{put a 2;}{}") + "if b 1{}{put a 2;}");
        due("by one way of 64", y.live(0), 1);
        y = told("put a 1;" + times(5, "if b 1{}{put a 2;}") + "if b 1{put a 2;}{}");
        due("by one way of 64", y.live(0), 1);
        y = told("put a 1;" + times(6, "if b 1{}{put a 2;}"));
        due("by all yes", y.live(0), 1);
        y = told("put a 1;" + times(6, "if b 1{put a 2;}{}"));
        due("by all no", y.live(0), 1);
        y = told("put a 1;" + times(5, "if b 1{put a 2;}{}") + "if b 1{put a 2;}{put a 3;}");
        due("by none", y.live(0), 0);
        says(20, "BAD: also an if.");
        due("an if", x.live(2), BAD);
        due("no such", x.live(5), BAD);
        due("below", x.live(-1), BAD);
        due("lowest", x.live(LOWEST), BAD);
        due("highest", x.live(HIGHEST), BAD);
        due("beyond 24", most.live(24), BAD);
        due("32", most.live(32), BAD);
        due("of a text of nothing", new GuardedCode().live(0), BAD);
    }

    private static void out() {
        says(21, "OUT becomes some (0 to 255): what it was.");
        GuardedCode x = new GuardedCode();
        due("0", x.out(0), 255);
        due("255", x.out(255), 0);
        due("1", x.out(1), 255);
        due("128", x.out(128), 1);
        due("128 again", x.out(128), 128);
        due("it is", x.rule(3), 128);
        says(21, "BAD.");
        due("256", x.out(256), BAD);
        due("-1", x.out(-1), BAD);
        due("lowest", x.out(LOWEST), BAD);
        due("highest", x.out(HIGHEST), BAD);
        due("it stays", x.rule(3), 128);
    }

    private static void sweep() {
        says(22, "Each put, add, sub, mul that is not LIVE goes, all at once,");
        GuardedCode x = told("put a 1;add a b c;sub a b c;mul a b c;div a b c;put a 2;");
        due("all but div and the last", x.sweep(), 4);
        codes(x, new int[][] {{4, 0, 1, 2, 0}, {0, 0, 2, NONE, 0}});
        due("of nothing", new GuardedCode().sweep(), 0);
        due("all are LIVE", told("put a 1;add b a a;").sweep(), 0);
        x = told("put a 1;");
        x.out(254);
        due("the only one", x.sweep(), 1);
        due("nothing is left", x.rule(0), 0);
        due("nothing is left", x.code(0, 0), BAD);
        x = told("if a 5{}{}");
        x.out(0);
        due("an if stays", x.sweep(), 0);
        x = told("put b 5;div a b b;");
        x.out(0);
        due("a div stays, and what it reads", x.sweep(), 0);
        x = told("put b 5;if b 5{}{}");
        x.out(0);
        due("what an if reads stays", x.sweep(), 0);
        x = told("put b 5;if c 5{div a a b;}{}");
        x.out(0);
        due("what a div reads by some way stays", x.sweep(), 0);
    }

    private static void sweepOn() {
        says(22, "and so on, till all are: how many went (those that are left are numbered anew).");
        GuardedCode x = told("put a 1;add b a a;sub c b b;mul d c c;put e 9;");
        x.out(16);
        due("one for another", x.sweep(), 4);
        codes(x, new int[][] {{0, 4, 9, NONE, 0}});
        due("no more go", x.sweep(), 0);
        x = told("put b 5;add a b b;put c 6;");
        due("all are LIVE", x.sweep(), 0);
        x.out(4);
        due("two, one behind another", x.sweep(), 2);
        x = told(times(24, "add a a a;"));
        x.out(0);
        due("24, one behind another", x.sweep(), 24);
        due("none is left", x.rule(0), 0);
        x = told(times(22, "add a a a;") + "if b 5{add a a a;}{}");
        x.out(0);
        due("23, and an if is left", x.sweep(), 23);
        codes(x, new int[][] {{5, 1, 5, NONE, 0}});
        x = told("put h 1;if a 5{put h 2;if b 4{put c 1;}{put h 3;}}{put h 4;if c 3{}{put d 2;}}put h 5;");
        x.want(1, 1);
        x.want(2, 0);
        due("four", x.sweep(), 4);
        codes(x, new int[][] {{5, 0, 5, NONE, 0}, {5, 1, 4, NONE, 1}, {0, 2, 1, NONE, 3}, {5, 2, 3, NONE, 2}, {0, 3, 2, NONE, 6}, {0, 7, 5, NONE, 0}});
        int[] makers = {0, 1, 3};
        for (int j = 0; j < 3; j++) {
            due("GUARDS stay, their if is numbered anew", x.guard(2 * j + 1, 1), makers[j]);
            due("which IF", x.code(makers[j], 6), j);
        }
        due("WISHES stay", x.wish(0, 0), 2);
        due("WISHES stay", x.wish(1, 0), 1);
        due("WISHES stay", x.wish(2, 0), 0);
        due("OUT stays", x.rule(3), 255);
    }

    private static void merges(String text, int times) {
        due("\"" + text + "\"", told(text).merge(), times);
    }

    private static void mergeFinds() {
        says(23, "The first IF both SIDES of which begin with two that are not if, and of one KIND, TARGET, NUMBER, VARIABLES,");
        merges("", 0);
        merges("put a 1;", 0);
        merges("if a 5{}{}", 0);
        merges("if a 5{put b 1;}{}", 0);
        merges("if a 5{}{put b 1;}", 0);
        merges("if a 5{put b 1;}{put b 1;}", 1);
        merges("if a 5{put b 0;}{put b 0;}", 1);
        merges("if a 5{put b 1;}{put b 2;}", 0);
        merges("if a 5{put b 1;}{put c 1;}", 0);
        merges("if a 5{add b c d;}{add b c d;}", 1);
        merges("if a 5{sub b c d;}{sub b c d;}", 1);
        merges("if a 5{mul b c d;}{mul b c d;}", 1);
        merges("if a 5{div b c d;}{div b c d;}", 1);
        merges("if a 5{add b c d;}{sub b c d;}", 0);
        merges("if a 5{add b c d;}{add e c d;}", 0);
        merges("if a 5{add b c d;}{add b e d;}", 0);
        merges("if a 5{add b c d;}{add b c e;}", 0);
        merges("if a 5{add b c d;}{add b d c;}", 0);
        merges("if a 5{put b 2;}{add b c a;}", 0);
        merges("if a 5{if b 5{}{}}{if b 5{}{}}", 0);
        merges("if a 5{if b 5{}{}put c 1;}{put c 1;}", 0);
        merges("if a 5{put c 1;}{if b 5{}{}put c 1;}", 0);
        merges("if a 5{put c 1;put b 1;}{put d 1;put b 1;}", 0);
        merges("if a 5{put c 1;put b 1;}{put b 1;put c 1;}", 0);
        merges("put b 1;if a 5{}{}put b 1;", 0);
        says(23, "whose TARGET is not its VARIABLE:");
        merges("if a 5{put a 1;}{put a 1;}", 0);
        merges("if h 5{put h 1;}{put h 1;}", 0);
        merges("if b 5{add a b b;}{add a b b;}", 1);
        merges("if b 5{put b 1;put a 1;}{put b 1;put a 1;}", 0);
        merges("if b 5{put a 1;put b 1;}{put a 1;put b 1;}", 1);
        // what it reads may be its TARGET, not the VARIABLE of the if
        merges("if b 5{add a a a;}{add a a a;}", 1);
    }

    private static void mergeMoves() {
        says(23, "both go, one such comes right ahead of that if (under its GUARD);");
        GuardedCode x = told("put h 9;if a 5{put b 1;put c 2;}{put b 1;put d 3;}put e 4;");
        due("once", x.merge(), 1);
        codes(x, new int[][] {{0, 7, 9, NONE, 0}, {0, 1, 1, NONE, 0}, {5, 0, 5, NONE, 0}, {0, 2, 2, NONE, 1}, {0, 3, 3, NONE, 2}, {0, 4, 4, NONE, 0}});
        due("the if", x.guard(1, 1), 2);
        due("which IF", x.code(2, 6), 0);
        x = told("if a 5{put h 9;if b 5{sub c d e;}{sub c d e;}put g 8;}{if b 4{add c d e;}{add c d e;}}");
        x.want(0, 0);
        x.want(2, 1);
        due("in yes, in no", x.merge(), 2);
        codes(x, new int[][] {{5, 0, 5, NONE, 0}, {0, 7, 9, NONE, 1}, {2, 2, 3, 4, 1}, {5, 1, 5, NONE, 1}, {0, 6, 8, NONE, 1}, {1, 2, 3, 4, 2}, {5, 1, 4, NONE, 2}});
        due("the first inner", x.guard(3, 1), 3);
        due("the other inner", x.guard(5, 1), 6);
        due("WISHES stay", x.wish(0, 0), 0);
        due("WISHES stay", x.wish(1, 0), 2);
        due("WISHES stay", x.wish(2, 0), 1);
        x = told("if a 5{put b 1;if c 5{}{}}{put b 1;if d 5{}{put e 2;}}");
        due("ahead of ifs within", x.merge(), 1);
        codes(x, new int[][] {{0, 1, 1, NONE, 0}, {5, 0, 5, NONE, 0}, {5, 2, 5, NONE, 1}, {5, 3, 5, NONE, 2}, {0, 4, 2, NONE, 6}});
    }

    private static void mergeOn() {
        says(23, "and so on, till there is none: how often (all are numbered anew).");
        GuardedCode x = told("if a 5{put b 1;put c 2;put d 3;}{put b 1;put c 2;put e 3;}");
        due("one behind another", x.merge(), 2);
        codes(x, new int[][] {{0, 1, 1, NONE, 0}, {0, 2, 2, NONE, 0}, {5, 0, 5, NONE, 0}, {0, 3, 3, NONE, 1}, {0, 4, 3, NONE, 2}});
        due("none is left", x.merge(), 0);
        x = told("if a 5{if b 5{put c 1;}{put c 1;}}{if d 5{put c 1;}{put c 1;}}");
        due("from within", x.merge(), 3);
        codes(x, new int[][] {{0, 2, 1, NONE, 0}, {5, 0, 5, NONE, 0}, {5, 1, 5, NONE, 1}, {5, 3, 5, NONE, 2}});
        x = told("if a 5{if a 5{if b 5{put c 1;}{put c 1;}}{put c 1;}}{put c 1;}");
        due("from within one another", x.merge(), 3);
        codes(x, new int[][] {{0, 2, 1, NONE, 0}, {5, 0, 5, NONE, 0}, {5, 0, 5, NONE, 1}, {5, 1, 5, NONE, 3}});
        x = told("if c 5{if b 5{put c 1;}{put c 1;}}{put c 1;}");
        due("as far as its VARIABLE lets it", x.merge(), 1);
        codes(x, new int[][] {{5, 2, 5, NONE, 0}, {0, 2, 1, NONE, 1}, {5, 1, 5, NONE, 1}, {0, 2, 1, NONE, 2}});
        String eleven = times(11, "put b 1;");
        x = told("if a 5{" + eleven + "}{" + eleven + "}");
        due("eleven times", x.merge(), 11);
        due("twelve are left", x.rule(0), 12);
        due("the if is the last", x.code(11, 0), 5);
        due("nothing is in yes", x.guard(1, 3), 0);
        due("nothing is in no", x.guard(2, 3), 0);
        due("of 24, none", told(times(23, "put b 1;") + "if a 5{}{}").merge(), 0);
        x = told("if a 5{" + eleven + "}{" + eleven + "}put c 2;");
        due("of 24, eleven times", x.merge(), 11);
        due("what is behind", x.code(12, 1), 2);
        due("what is behind", x.code(12, 4), 0);
        due("nothing is behind that", x.code(13, 0), BAD);
        x = told("if a 5{put b 1;}{put c 1;put d 1;}put b 2;put d 2;");
        due("swept", x.sweep(), 2);
        due("what went begins no SIDE", x.merge(), 0);
        x = told(times(6, "if a 5{put b 1;}{put b 1;}"));
        due("of each of six", x.merge(), 6);
        for (int j = 0; j < 6; j++) {
            due("maker", x.guard(2 * j + 1, 1), 2 * j + 1);
            due("what comes ahead", x.code(2 * j, 1), 1);
            due("all under 0", x.code(2 * j, 4), 0);
        }
        // what one brings ahead may keep another from being merged; the first goes first
        x = told("if a 5{if b 5{put d 1;}{put d 1;}put c 1;}{put c 1;}");
        due("the first is not yet to be merged", x.merge(), 1);
        codes(x, new int[][] {{5, 0, 5, NONE, 0}, {0, 3, 1, NONE, 1}, {5, 1, 5, NONE, 1}, {0, 2, 1, NONE, 1}, {0, 2, 1, NONE, 2}});
    }
}
