import java.math.BigInteger;

/** Promises 12 to 15: runs. */
final class RunEdges extends Edges {
    static void all() {
        run();
        value();
        spent();
        runsBySeed();
        runsByThemselves();
        runsBad();
    }

    private static void run() {
        says(12, "A RUN: how many INSTRUCTIONS are DONE;");
        due("of nothing", new GuardedCode().run(1, 2, 3, 4), 0);
        due("of 24", told(times(24, "put a 1;")).run(0, 0, 0, 0), 24);
        GuardedCode x = told("if a 5{put e 1;put e 2;if b 5{}{put e 3;}}{put e 4;}put e 5;");
        due("no", x.run(0, 0, 0, 0), 3);
        due("yes, no", x.run(1, 0, 0, 0), 6);
        due("yes, yes", x.run(1, 1, 0, 0), 5);
        due("highest", x.run(HIGHEST, HIGHEST, HIGHEST, HIGHEST), 5);
        due("lowest", x.run(LOWEST, LOWEST, LOWEST, LOWEST), 3);
        x.want(0, 0);
        due("whether JUMPED or GUARDED", x.run(1, 0, 0, 0), 6);
        says(12, "-10 less the number of the div that STOPS it.");
        due("0", told("div a a b;").run(1, 0, 0, 0), -10);
        due("23", told(times(23, "put a 1;") + "div a a b;").run(1, 0, 0, 0), -33);
        x = told("if a 5{div e b c;div e b d;}{div e b b;}div e b c;");
        due("1", x.run(1, 1, 0, 0), -11);
        due("2", x.run(1, 1, 1, 0), -12);
        due("3", x.run(0, 0, 0, 0), -13);
        due("4", x.run(0, 1, 0, 1), -14);
        due("none", x.run(0, 1, 1, 0), 3);
        due("none", x.run(1, 0, 1, 1), 4);
    }

    private static void value() {
        says(13, "What a VARIABLE has behind the latest RUN (0: there was none).");
        GuardedCode x = told("put h 8;div e a b;put h 9;");
        for (int v = 0; v < 8; v++) {
            due("there was none", x.value(v), 0);
        }
        x.run(6, 3, -1, LOWEST);
        int[] want = {6, 3, -1, LOWEST, 2, 0, 0, 9};
        for (int v = 0; v < 8; v++) {
            due("value(" + v + ")", x.value(v), want[v]);
        }
        due("one that is STOPPED", x.run(7, 0, 0, 0), -11);
        due("is the latest", x.value(0), 7);
        due("up to its STOP", x.value(7), 8);
        due("up to its STOP", x.value(4), 0);
        x.runs(5, 100, 0);
        due("runs() leave it", x.value(0), 7);
        x.out(0);
        x.set(2, 2, 1);
        x.turn(1, 1);
        due("swept", x.sweep(), 3);
        due("other calls leave it", x.value(0), 7);
        due("other calls leave it", x.value(7), 8);
        tell(x, "?");
        due("a text that is refused leaves it", x.value(0), 7);
        x.keep(0);
        due("keep() leaves it", x.value(0), 7);
        x.back(1);
        due("back() that is refused leaves it", x.value(0), 7);
        x.back(0);
        due("there was none, by back()", x.value(0), 0);
        x.run(7, 0, 0, 0);
        x.text();
        due("there was none, by text()", x.value(0), 0);
        says(13, "With no such VARIABLE: -1.");
        due("8, there was none", x.value(8), -1);
        due("-1, there was none", x.value(-1), -1);
        x.run(7, 7, 7, 7);
        due("8", x.value(8), -1);
        due("-1", x.value(-1), -1);
        due("lowest", x.value(LOWEST), -1);
        due("highest", x.value(HIGHEST), -1);
    }

    private static void spent() {
        says(14, "What the latest RUN SPENT (by what was GUARDED then).");
        GuardedCode x = told("if a 5{put e 1;}{put e 2;put e 3;}");
        x.want(0, 1);
        x.run(1, 0, 0, 0);
        due("GUARDED then", x.spent(), 4);
        x.want(0, 0);
        due("by what was GUARDED then", x.spent(), 4);
        x.run(1, 0, 0, 0);
        due("JUMPED then", x.spent(), 5);
        x.want(0, 1);
        due("by what was JUMPED then", x.spent(), 5);
        x.run(0, 0, 0, 0);
        x.runs(5, 100, 1);
        due("runs() leave it", x.spent(), 4);
        x.set(0, 2, 0);
        x.out(0);
        due("swept", x.sweep(), 3);
        due("other calls leave it", x.spent(), 4);
        tell(x, "?");
        due("a text that is refused leaves it", x.spent(), 4);
        GuardedCode none = new GuardedCode();
        none.run(0, 0, 0, 0);
        due("a RUN of nothing SPENDS 0", none.spent(), 0);
        says(14, "NONE: there was none.");
        due("at first", new GuardedCode().spent(), NONE);
        GuardedCode y = told("put a 1;");
        y.runs(5, 100, 1);
        due("runs() are none", y.spent(), NONE);
        y.run(0, 0, 0, 0);
        due("there was one", y.spent(), 1);
        y.keep(1);
        due("keep()", y.spent(), 1);
        y.back(1);
        due("back()", y.spent(), NONE);
        y.run(0, 0, 0, 0);
        y.text();
        due("text()", y.spent(), NONE);
    }

    /** The four numbers that a seed brings, and the seed behind them, by numbers without bounds. */
    private static int[] four(int seed, int[] behind) {
        BigInteger bound = BigInteger.ONE.shiftLeft(32);
        BigInteger now = BigInteger.valueOf(seed).mod(bound);
        int[] four = new int[4];
        for (int v = 0; v < 4; v++) {
            now = now.multiply(BigInteger.valueOf(1103515245)).add(BigInteger.valueOf(12345)).mod(bound);
            four[v] = now.shiftRight(16).mod(BigInteger.valueOf(32768)).mod(BigInteger.valueOf(9)).intValue() - 4;
        }
        behind[0] = now.intValue();
        return four;
    }

    private static void runsBySeed() {
        says(15, "By a seed, n RUNS (1 to 100),");
        GuardedCode y = told("put e 1;");
        due("1", y.runs(7, 1, 0), 1);
        due("100", y.runs(7, 100, 0), 100);
        due("1", y.runs(7, 1, 1), 1);
        due("100", y.runs(7, 100, 1), 100);
        says(15, "for each of a to d in turn the seed becomes seed times 1103515245 and 12345; bits 16 to 30 of it are got, the number is got modulo 9, less 4:");
        int[] seeds = {0, 1, -1, 2, 7, LOWEST, HIGHEST, 65536, -65536, 123456789, -987654321, 1 << 30};
        int[] behind = new int[1];
        for (int seed : seeds) {
            // it is STOPPED just if V has K less 4
            GuardedCode x = told("put h 4;add g a h;put f 0;sub g g f;div e e g;");
            int[] four = four(seed, behind);
            for (int v = 0; v < 4; v++) {
                x.set(1, 2, v);
                for (int number = -4; number <= 4; number++) {
                    x.set(2, 2, number + 4);
                    due("seed " + seed + ": " + v + " is " + number, x.runs(seed, 1, 0), four[v] == number ? 0 : 1);
                }
            }
            due("the second goes on behind the first", x.runs(seed, 2, 0), x.runs(seed, 1, 0) + x.runs(behind[0], 1, 0));
        }
        due("bounds of 32 bits", told("if a 5{}{}div c a a;").runs(7, 50, 0), 44);
    }

    private static void runsByThemselves() {
        says(15, "by themselves (none is the latest):");
        GuardedCode y = told("put e 1;");
        y.runs(7, 100, 0);
        due("none is the latest", y.spent(), NONE);
        due("none is the latest", y.value(4), 0);
        y.run(9, 8, 7, 6);
        y.runs(7, 100, 0);
        due("the latest is that before", y.value(0), 9);
        due("one begins as new, whatever the one before left", told("if e 5{div a b f;}{put e 1;}").runs(7, 100, 0), 100);
        says(15, "how many are not STOPPED (what 0), how much they SPEND (1).");
        GuardedCode x = told("if a 5{div e e b;put f 1;}{put f 2;}div g g c;");
        int[] seeds = {5, -5, LOWEST};
        for (int seed : seeds) {
            x.want(0, seed == 5 ? 1 : 0);
            int[] next = {seed};
            int whole = 0;
            int spending = 0;
            for (int r = 0; r < 25; r++) {
                int[] four = four(next[0], next);
                whole += x.run(four[0], four[1], four[2], four[3]) >= 0 ? 1 : 0;
                spending += x.spent();
            }
            due("not STOPPED", x.runs(seed, 25, 0), whole);
            due("SPEND", x.runs(seed, 25, 1), spending);
        }
        GuardedCode z = told("div e e e;");
        due("all are STOPPED", z.runs(1, 100, 0), 0);
        due("those that are STOPPED SPEND, too", z.runs(1, 100, 1), 400);
        due("of nothing", new GuardedCode().runs(1, 100, 0), 100);
        due("of nothing", new GuardedCode().runs(1, 100, 1), 0);
    }

    private static void runsBad() {
        says(15, "BAD.");
        GuardedCode x = told("put e 1;");
        due("n 0", x.runs(7, 0, 0), BAD);
        due("n 101", x.runs(7, 101, 0), BAD);
        due("n -1", x.runs(7, -1, 1), BAD);
        due("n lowest", x.runs(7, LOWEST, 0), BAD);
        due("n highest", x.runs(7, HIGHEST, 0), BAD);
        due("what 2", x.runs(7, 1, 2), BAD);
        due("what -1", x.runs(7, 1, -1), BAD);
        due("what lowest", x.runs(7, 1, LOWEST), BAD);
    }
}
