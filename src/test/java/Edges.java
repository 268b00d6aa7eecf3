import java.util.ArrayList;
import java.util.List;

/** What the tests of single sentences share. */
abstract class Edges {
    static final int BAD = Check.BAD, STATE = Check.STATE, FULL = Check.FULL, NONE = Check.NONE;
    static final int LOWEST = Integer.MIN_VALUE, HIGHEST = Integer.MAX_VALUE;

    interface Call {
        long on(GuardedCode x);
    }

    /** Begins the test of a sentence: of "Terms" (0), else of the promise with that number. */
    static void says(int section, String sentence) {
        Document.says(section, sentence);
    }

    static void due(String what, long got, long want) {
        Check.due(what, got, want);
    }

    static GuardedCode told(String text) {
        return Check.told(text);
    }

    static int tell(GuardedCode x, String text) {
        return Check.tell(x, text);
    }

    static String times(int n, String text) {
        return text.repeat(n);
    }

    /** A text on a new object: its answer and its FAULT. */
    static void fault(String text, int fault, int place) {
        GuardedCode x = new GuardedCode();
        due("\"" + text + "\"", tell(x, text), -10 - place);
        due("fault of \"" + text + "\"", x.fault(), fault);
    }

    static void taken(String text, int instructions) {
        GuardedCode x = new GuardedCode();
        due("\"" + text + "\"", tell(x, text), instructions);
        due("fault of \"" + text + "\"", x.fault(), 0);
    }

    /** The rows of code(i, 0) to code(i, 4), one for each INSTRUCTION, and no more of them. */
    static void codes(GuardedCode x, int[][] rows) {
        due("instructions", x.rule(0), rows.length);
        for (int i = 0; i < rows.length; i++) {
            for (int what = 0; what < rows[i].length; what++) {
                due("code(" + i + ", " + what + ")", x.code(i, what), rows[i][what]);
            }
        }
    }

    static void mean(GuardedCode x, long above, long below) {
        due("mean(0)", x.mean(0), above);
        due("mean(1)", x.mean(1), below);
    }

    static void odds(GuardedCode x, int g, long above, long below) {
        due("odds(" + g + ", 0)", x.odds(g, 0), above);
        due("odds(" + g + ", 1)", x.odds(g, 1), below);
    }

    /** Lays CELLS from a place on. */
    static void lay(GuardedCode x, int k, int from, int... cells) {
        for (int c = 0; c < cells.length; c++) {
            x.lay(k, from + c, cells[c]);
        }
    }

    /**
     * An object that has something of all: five INSTRUCTIONS, an IF, both IMAGES unlike, a RUN, a FAULT
     * of a text and one of a read, three bytes on THE TAPE, SHEETS 0 to 2 of each lane, SHEET 3 of nothing.
     */
    static GuardedCode rich() {
        GuardedCode x = told("if a 3{put b 1;add c b b;}{div d a b;}put e 7;");
        x.keep(1);
        x.want(0, 0);
        x.out(28);
        x.set(1, 2, 5);
        x.keep(0);
        x.want(0, 1);
        x.out(31);
        x.set(4, 2, 8);
        x.sheet(0, 0, 10);
        lay(x, 0, 0, 1, 2, 44, 4, 1, 5, 0, 3, 0, 1);
        x.sheet(1, 1, 3);
        lay(x, 1, 0, 2, 3, 6);
        x.sheet(2, 2, 3);
        lay(x, 2, 0, 3, 1, 7);
        x.run(1, 2, 3, 4);
        tell(x, "?");
        x.read(0, 0, 9, 1);
        Check.feedAll(x, "put");
        return x;
    }

    /** A call that is refused answers so, and leaves all as in an object that was never asked. */
    static void refused(String what, long want, Call call) {
        GuardedCode x = rich();
        due(what, call.on(x), want);
        changedNothing(what, x);
    }

    static void changedNothing(String what, GuardedCode x) {
        List<Long> got = all(x);
        List<Long> want = all(rich());
        for (int at = 0; at < want.size(); at++) {
            due(what + " leaves answer " + at + " of all", got.get(at), want.get(at));
        }
    }

    /** All that can be asked of a rich object; some 350 calls, and it is changed by the last of them. */
    private static List<Long> all(GuardedCode x) {
        List<Long> answers = new ArrayList<>();
        askAll(x, answers);
        for (int k = 0; k < 4; k++) {
            answers.add((long) x.read(k, Math.min(k, 2), 0, k == 0 ? 2 : 1));
        }
        askAll(x, answers);
        for (int k = 0; k < 2; k++) {
            answers.add((long) x.back(k));
            askAll(x, answers);
        }
        Check.feedAll(x, " a 9;");
        answers.add((long) x.text());
        answers.add((long) x.code(0, 2));
        return answers;
    }

    private static void askAll(GuardedCode x, List<Long> answers) {
        for (int w = 0; w < 6; w++) {
            answers.add((long) x.rule(w));
            answers.add((long) x.count(w));
        }
        for (int i = 0; i < 5; i++) {
            for (int w = 0; w < 7; w++) {
                answers.add((long) x.code(i, w));
            }
            answers.add((long) x.live(i));
        }
        for (int v = 0; v < 8; v++) {
            answers.add((long) x.value(v));
        }
        for (int w = 0; w < 2; w++) {
            answers.add((long) x.wish(0, w));
            answers.add(x.mean(w));
            answers.add(x.odds(1, w));
        }
        answers.add((long) x.spent());
        answers.add((long) x.fault());
        answers.add((long) x.torn());
    }
}
