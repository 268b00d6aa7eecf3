/** Promises 16 to 19: what it costs. */
final class CostEdges extends Edges {
    private static final String SIX_IFS = "if a 1{}{}if b 2{}{}if c 3{}{}if d 4{}{}if e 5{}{}if f 6{}{}";
    private static final int[] WRONG = {-1, 6, 7, LOWEST, HIGHEST};

    static void all() {
        wish();
        want();
        mean();
        odds();
    }

    private static void wish() {
        says(16, "WISH of an IF (what 0), whether it is GUARDED (1; 1, 0).");
        GuardedCode x = told(SIX_IFS);
        for (int j = 0; j < 6; j++) {
            due("at first " + j, x.wish(j, 0), 2);
            due("at first " + j, x.wish(j, 1), 1);
            x.want(j, 0);
            due("0 " + j, x.wish(j, 0), 0);
            due("0 " + j, x.wish(j, 1), 0);
            x.want(j, 1);
            due("1 " + j, x.wish(j, 0), 1);
            due("1 " + j, x.wish(j, 1), 1);
            x.want(j, 0);
            due("how many", x.rule(4), 5 - j);
        }
        says(16, "BAD.");
        for (int wrong : WRONG) {
            due("no such IF " + wrong, x.wish(wrong, 0), BAD);
            due("no such IF " + wrong, x.wish(wrong, 1), BAD);
        }
        due("what 2", x.wish(0, 2), BAD);
        due("what -1", x.wish(5, -1), BAD);
        due("what lowest", x.wish(0, LOWEST), BAD);
        due("of a text of nothing", new GuardedCode().wish(0, 0), BAD);
        due("an INSTRUCTION that is no if", told("put a 1;if a 1{}{}").wish(1, 0), BAD);
    }

    private static void want() {
        says(17, "WISH of an IF becomes v (0 to 2): what it was.");
        GuardedCode x = told(SIX_IFS);
        due("0", x.want(0, 0), 2);
        due("1", x.want(0, 1), 0);
        due("2", x.want(0, 2), 1);
        due("2 again", x.want(0, 2), 2);
        due("of the last", x.want(5, 1), 2);
        due("of the last", x.wish(5, 0), 1);
        due("of no other", x.wish(4, 0), 2);
        says(17, "BAD.");
        due("3", x.want(5, 3), BAD);
        due("-1", x.want(5, -1), BAD);
        due("lowest", x.want(5, LOWEST), BAD);
        due("highest", x.want(5, HIGHEST), BAD);
        due("it stays", x.wish(5, 0), 1);
        for (int wrong : WRONG) {
            due("no such IF " + wrong, x.want(wrong, 0), BAD);
        }
        due("none of all changed", x.rule(4), 6);
        due("of a text of nothing", new GuardedCode().want(0, 0), BAD);
    }

    private static void mean() {
        says(18, "MEANS of all INSTRUCTIONS under GUARD 0, summed: 0, 1.");
        mean(new GuardedCode(), 0, 1);
        mean(told("put a 1;div a a b;"), 5, 1);
        GuardedCode x = told("if a 3{put b 1;div b b b;}{}if a 10{}{put b 1;}put c 1;");
        mean(x, 17, 2);
        x.want(0, 1);
        mean(x, 9, 1);
        x.want(1, 0);
        mean(x, 11, 1);
        x.want(0, 0);
        mean(x, 21, 2);
        // the dearest: 24 of which 23 are div
        mean(told(times(23, "div a a a;") + "if a 1{}{}"), 93, 1);
        x = told("if a 9{if a 9{if a 9{if a 9{if a 9{if a 9{put h 1;}{}}{}}{}}{}}{}}{}");
        for (int j = 0; j < 6; j++) {
            x.want(j, 0);
        }
        mean(x, 19273801, 1000000);
        x.set(0, 2, 0);
        mean(x, 4, 1);
        says(18, "BAD.");
        due("2", x.mean(2), BAD);
        due("-1", x.mean(-1), BAD);
        due("lowest", x.mean(LOWEST), BAD);
        due("highest", x.mean(HIGHEST), BAD);
    }

    private static void odds() {
        says(19, "How likely a GUARD holds, by TENTHS: 0, 1.");
        odds(new GuardedCode(), 0, 1, 1);
        GuardedCode x = told("if a 3{if b 9{}{}}{if c 10{}{if d 7{}{}}}");
        long[][] want = {{1, 1}, {3, 10}, {7, 10}, {27, 100}, {3, 100}, {7, 10}, {0, 1}, {0, 1}, {0, 1}};
        for (int g = 0; g < want.length; g++) {
            odds(x, g, want[g][0], want[g][1]);
        }
        x.want(0, 0);
        odds(x, 3, 27, 100);
        x = told("if a 9{if a 9{if a 9{if a 9{if a 9{if a 9{}{}}{}}{}}{}}{}}{}");
        odds(x, 11, 531441, 1000000);
        odds(x, 12, 59049, 1000000);
        for (int i = 0; i < 6; i++) {
            x.set(i, 2, 10);
        }
        odds(x, 11, 1, 1);
        odds(x, 12, 0, 1);
        x.set(0, 2, 0);
        odds(x, 11, 0, 1);
        odds(x, 2, 1, 1);
        says(19, "BAD.");
        due("beyond the last", x.odds(13, 0), BAD);
        due("below", x.odds(-1, 1), BAD);
        due("lowest", x.odds(LOWEST, 0), BAD);
        due("highest", x.odds(HIGHEST, 0), BAD);
        due("what 2", x.odds(0, 2), BAD);
        due("what -1", x.odds(12, -1), BAD);
        due("of a text of nothing", new GuardedCode().odds(1, 0), BAD);
    }
}
