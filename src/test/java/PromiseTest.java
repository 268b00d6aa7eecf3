/** Each promise of the document: ordinary inputs, the edges that it names, wrong inputs. */
public final class PromiseTest {
    private static final int BAD = Check.BAD, STATE = Check.STATE, FULL = Check.FULL, NONE = Check.NONE;
    private static final int LOWEST = Integer.MIN_VALUE, HIGHEST = Integer.MAX_VALUE;
    /** Six IFS: 0 has 1 in yes and 2 in no, 3 in no of 2; 4 stands by itself, 5 in yes of 4. */
    private static final String FOREST = "if a 1{if b 2{}{}}{if c 3{}{if d 4{}{}}}if e 5{if f 6{}{}}{}";
    /** As deep as may be, each in no of the one before. */
    private static final String DEEP = "if a 1{}{if a 1{}{if a 1{}{if a 1{}{if a 1{}{if a 1{}{put b 7;}}}}}}";

    private static void due(String what, long got, long want) {
        Check.due(what, got, want);
    }

    private static GuardedCode told(String text) {
        return Check.told(text);
    }

    public static void main(String[] args) {
        newObject();
        feed();
        end();
        textThatIsTaken();
        textFaults();
        textLimits();
        textBoundsOfTokens();
        rule();
        code();
        guard();
        within();
        apart();
        cover();
        run();
        runStops();
        value();
        spent();
        runs();
        wishAndWant();
        guardedByCost();
        mean();
        odds();
        live();
        out();
        sweep();
        merge();
        mergeInside();
        set();
        turn();
        keepAndBack();
        sheet();
        lay();
        read();
        readFaults();
        torn();
        count();
        Check.finish();
    }

    private static void newObject() {
        GuardedCode x = new GuardedCode();
        due("1 rule 0", x.rule(0), 0);
        due("1 rule 1", x.rule(1), 0);
        due("1 rule 2", x.rule(2), 0);
        due("1 rule 3", x.rule(3), 255);
        due("1 rule 4", x.rule(4), 0);
        due("1 rule 5", x.rule(5), 0);
        due("1 code", x.code(0, 0), BAD);
        due("1 guard 0 parent", x.guard(0, 0), NONE);
        due("1 guard 0 depth", x.guard(0, 2), 0);
        due("1 guard 0 under", x.guard(0, 3), 0);
        due("1 guard 1", x.guard(1, 0), BAD);
        due("1 fault", x.fault(), 0);
        due("1 torn", x.torn(), 0);
        due("1 spent", x.spent(), NONE);
        due("1 value", x.value(0), 0);
        due("1 back", x.back(0), STATE);
        due("1 mean 0", x.mean(0), 0);
        due("1 mean 1", x.mean(1), 1);
        due("1 sweep", x.sweep(), 0);
        due("1 merge", x.merge(), 0);
        for (int k = 0; k < 4; k++) {
            due("1 sheet of nothing", x.lay(k, 0, 0), -11);
        }
        due("1 count 3", x.count(3), NONE);
    }

    private static void feed() {
        GuardedCode x = new GuardedCode();
        due("2 below", x.feed(-1), BAD);
        due("2 above", x.feed(128), BAD);
        due("2 lowest", x.feed(LOWEST), BAD);
        due("2 first", x.feed(0), 1);
        due("2 greatest", x.feed(127), 2);
        for (int n = 3; n <= 320; n++) {
            due("2 feed", x.feed(32), n);
        }
        due("2 full", x.feed(32), FULL);
        due("2 bad ahead of full", x.feed(128), BAD);
        due("2 full changes nothing", x.count(2), 320);
    }

    private static void end() {
        GuardedCode x = new GuardedCode();
        due("3 of none", x.end(0), 0);
        due("3 more than none", x.end(1), BAD);
        Check.feedAll(x, "put a 1;put b 2;#");
        due("3 below", x.end(-1), BAD);
        due("3 more than there are", x.end(18), BAD);
        due("3 as many", x.end(17), 17);
        due("3 fewer", x.end(8), 17);
        due("3 keeps", x.count(2), 8);
        due("3 the first", x.text(), 1);
        due("3 the first one", x.code(0, 2), 1);
    }

    private static void textThatIsTaken() {
        GuardedCode x = told("put d 9;if d 3{if e 5{put e 1;}{}}{add e e d;}sub f e d;");
        due("4 rule", x.rule(0), 6);
        due("4 tape is empty", x.count(2), 0);
        x.run(1, 2, 3, 4);
        x.want(0, 1);
        x.out(3);
        x.keep(0);
        due("4 an empty text", x.text(), 0);
        due("4 in place of what there was", x.rule(0), 0);
        due("4 no if", x.rule(1), 0);
        due("4 out", x.rule(3), 255);
        due("4 no run", x.spent(), NONE);
        due("4 no value", x.value(3), 0);
        due("4 no image", x.back(0), STATE);
        due("4 count of images", x.count(0), 0);
        x = told("if a 1{}{}");
        x.want(0, 0);
        Check.tell(x, "if a 1{}{}");
        due("4 wish is new", x.wish(0, 0), 2);
        due("4 blanks", Check.tell(x, "   put   a 1 ;   "), 1);
        due("4 no blanks that need not be", Check.tell(x, "if a 5{put b 1;}{mul c d e;}div a b c;"), 4);
        due("4 a name right behind a number", Check.tell(x, "put a 1;if a 5 {}{}"), 2);
        due("4 two figures", Check.tell(x, "put a 00;put b 09;put c 99;"), 3);
        due("4 09", x.code(1, 2), 9);
        due("4 tenths 10", Check.tell(x, "if h 10{}{}"), 1);
        due("4 tenths 0", Check.tell(x, "if h 0{}{}"), 1);
    }

    private static void fault(String text, int place, int fault) {
        GuardedCode x = told("if a 4{put b 1;}{}");
        x.run(5, 6, 7, 8);
        x.out(7);
        x.keep(1);
        x.want(0, 0);
        due("4 \"" + text + "\"", Check.tell(x, text), -10 - place);
        due("5 \"" + text + "\"", x.fault(), fault);
        due("4 the tape is empty then", x.count(2), 0);
        due("4 all stays", x.rule(0), 2);
        due("4 out stays", x.rule(3), 7);
        due("4 the run stays", x.value(3), 8);
        due("4 images stay", x.count(0), 1);
        due("4 wishes stay", x.wish(0, 0), 0);
        Check.tell(x, "");
        due("5 none", x.fault(), 0);
    }

    private static void textFaults() {
        fault("#", 0, 1);
        fault("  A", 2, 1);
        fault("put a\t1;", 5, 1);
        fault("put a 1,", 7, 1);
        fault("100", 0, 1);
        fault("put a 100;", 6, 1);
        fault("put a 000;", 6, 1);
        fault("put i #", 4, 2);
        fault("puta 1;", 0, 2);
        fault("pu a 1;", 0, 2);
        fault("iff a 1{}{}", 0, 2);
        fault("a", 0, 2);
        fault("5", 0, 2);
        fault(";", 0, 2);
        fault("{", 0, 2);
        fault("}", 0, 2);
        fault("put", 3, 2);
        fault("put   ", 6, 2);
        fault("put a", 5, 2);
        fault("put a b;", 6, 2);
        fault("put a 1", 7, 2);
        fault("put a 1 2;", 8, 2);
        fault("put put 1;", 4, 2);
        fault("put i 1;", 4, 2);
        fault("put 1 1;", 4, 2);
        fault("add a b;", 7, 2);
        fault("add a b 1;", 8, 2);
        fault("add a b i;", 8, 2);
        fault("add a b c", 9, 2);
        fault("if a{}{}", 4, 2);
        fault("if a 11{}{}", 5, 3);
        fault("if a 99 #", 5, 3);
        fault("if a 5{", 7, 2);
        fault("if a 5{}", 8, 2);
        fault("if a 5{}put a 1;", 8, 2);
        fault("if a 5{}{", 9, 2);
        fault("if a 5{}{}}", 10, 2);
        fault("if a 5{}{}{", 10, 2);
        fault("if a 5{}{}put", 13, 2);
        fault("if a 5{;}{}", 7, 2);
        fault("put a 1;put b 2;put c 300;", 22, 1);
    }

    /** A text on a new object, as some of these take most of the calls that it is used for. */
    private static void alone(String what, String text, int want, int fault) {
        GuardedCode x = new GuardedCode();
        due("4 " + what, Check.tell(x, text), want);
        due("5 " + what, x.fault(), fault);
    }

    private static void textLimits() {
        String puts = "put a 1;".repeat(24);
        alone("24 instructions", puts, 24, 0);
        alone("the 25th", puts + "add", -10 - 192, 5);
        alone("the 25th, an if", puts + " if a 1{}{}", -10 - 193, 5);
        alone("a name that begins no stmt ahead of that", puts + "foo", -10 - 192, 2);
        GuardedCode x = told(puts);
        Check.tell(x, puts + "add");
        due("4 stays", x.rule(0), 24);
        String six = "if a 1{}{}".repeat(6);
        alone("six ifs", six, 6, 0);
        alone("the 7th if", six + "if", -10 - 60, 5);
        alone("no if behind six", six + "put a 1;", 7, 0);
        alone("six within one another", DEEP, 7, 0);
        alone("the 7th within", DEEP.replace("put b 7;", "if a 1{}{}"), -10 - 54, 5);
    }

    private static void textBoundsOfTokens() {
        String blanks = " ".repeat(312);
        alone("at the end of the tape", blanks + "put a 1;", 1, 0);
        alone("a fault at the end of the tape", blanks + " put a 1", -10 - 320, 2);
        alone("a V wanted at the end of the tape", blanks + "     put", -10 - 320, 2);
        alone("320 blanks", blanks + "        ", 0, 0);
    }

    private static void rule() {
        GuardedCode x = told(FOREST);
        due("6 instructions", x.rule(0), 6);
        due("6 ifs", x.rule(1), 6);
        due("6 depth", x.rule(2), 3);
        due("6 out", x.rule(3), 255);
        due("6 guarded", x.rule(4), 6);
        due("6 flat", x.rule(5), 6);
        due("6 above", x.rule(6), BAD);
        due("6 below", x.rule(-1), BAD);
        x = told(DEEP);
        due("6 greatest depth", x.rule(2), 6);
        x = told("div a b c;if a 5{div a a a;div b b b;put c 1;}{div c c c;}mul a a a;");
        due("6 flat of all", x.rule(5), 4 + 1 + 4 + 4 + 1 + 4 + 1);
        due("6 jumped", x.rule(4), 0);
        due("6 no guard is made", told("put a 1;").rule(2), 0);
    }

    private static void code() {
        GuardedCode x = told("put h 42;if b 7{div c d e;}{mul f g a;if a 0{add a b c;}{}}sub a h g;");
        int[][] rows = {
            {0, 7, 42, NONE, 0, 1, NONE},
            {5, 1, 7, NONE, 0, 8, 0},
            {4, 2, 3, 4, 1, 4, NONE},
            {3, 5, 6, 0, 2, 1, NONE},
            {5, 0, 0, NONE, 2, 2, 1},
            {1, 0, 1, 2, 3, 1, NONE},
            {2, 0, 7, 6, 0, 1, NONE},
        };
        for (int i = 0; i < rows.length; i++) {
            for (int what = 0; what < 7; what++) {
                due("7 code " + i + " " + what, x.code(i, what), rows[i][what]);
            }
            due("7 what above", x.code(i, 7), BAD);
            due("7 what below", x.code(i, -1), BAD);
        }
        due("7 no such", x.code(7, 0), BAD);
        due("7 no such, NONE else", x.code(7, 3), BAD);
        due("7 below", x.code(-1, 0), BAD);
        due("7 lowest", x.code(LOWEST, 3), BAD);
    }

    private static void guard() {
        GuardedCode x = told("put a 1;" + FOREST.replace("if b 2{}", "if b 2{put a 1;put b 2;}"));
        int[] parents = {NONE, 0, 0, 1, 1, 2, 2, 6, 6, 0, 0, 9, 9};
        int[] makers = {NONE, 1, 1, 2, 2, 5, 5, 6, 6, 7, 7, 8, 8};
        int[] depths = {0, 1, 1, 2, 2, 2, 2, 3, 3, 1, 1, 2, 2};
        int[] under = {3, 1, 1, 2, 0, 0, 1, 0, 0, 1, 0, 0, 0};
        for (int g = 0; g < 13; g++) {
            due("8 parent of " + g, x.guard(g, 0), parents[g]);
            due("8 maker of " + g, x.guard(g, 1), makers[g]);
            due("8 depth of " + g, x.guard(g, 2), depths[g]);
            due("8 under " + g, x.guard(g, 3), under[g]);
            due("8 what above", x.guard(g, 4), BAD);
            due("8 what below", x.guard(g, -1), BAD);
        }
        due("8 no such", x.guard(13, 0), BAD);
        due("8 below", x.guard(-1, 0), BAD);
        due("8 as many as ifs make", told("if a 1{}{}").guard(3, 0), BAD);
    }

    private static void within() {
        GuardedCode x = told(FOREST);
        due("9 itself", x.within(7, 7), 1);
        due("9 its parent", x.within(7, 6), 1);
        due("9 the parent of that", x.within(7, 2), 1);
        due("9 always", x.within(7, 0), 1);
        due("9 0 in 0", x.within(0, 0), 1);
        due("9 not the other way", x.within(2, 7), 0);
        due("9 0 in none", x.within(0, 1), 0);
        due("9 the other side", x.within(7, 8), 0);
        due("9 elsewhere", x.within(7, 9), 0);
        due("9 no such", x.within(13, 0), BAD);
        due("9 no such", x.within(0, 13), BAD);
        due("9 below", x.within(-1, 0), BAD);
        due("9 below", x.within(0, -1), BAD);
        due("9 six deep", told(DEEP).within(12, 0), 1);
    }

    private static void apart() {
        GuardedCode x = told(FOREST);
        due("10 both sides", x.apart(1, 2), 1);
        due("10 itself", x.apart(1, 1), 0);
        due("10 0", x.apart(0, 0), 0);
        due("10 0 and another", x.apart(0, 8), 0);
        due("10 one within another", x.apart(3, 1), 0);
        due("10 in other sides", x.apart(3, 7), 1);
        due("10 the other way", x.apart(7, 3), 1);
        due("10 within the other side", x.apart(7, 1), 1);
        due("10 of two that stand by themselves", x.apart(1, 9), 0);
        due("10 no such", x.apart(13, 0), BAD);
        due("10 no such", x.apart(0, 13), BAD);
        due("10 below", x.apart(0, -1), BAD);
        due("10 below", x.apart(-1, 0), BAD);
        due("10 whatever its variable has", told("if a 1{}{}if a 1{}{}").apart(1, 4), 0);
    }

    private static void cover() {
        GuardedCode x = told(FOREST);
        due("11 itself", x.cover(5, 1 << 5), 1);
        due("11 its parent", x.cover(5, 1 << 2), 1);
        due("11 always", x.cover(12, 1), 1);
        due("11 none", x.cover(0, 0), 0);
        due("11 both sides", x.cover(0, 1 << 1 | 1 << 2), 1);
        due("11 one side", x.cover(0, 1 << 1), 0);
        due("11 of both sides of two", x.cover(0, 1 << 1 | 1 << 10), 0);
        due("11 sides within", x.cover(0, 1 << 1 | 1 << 5 | 1 << 7 | 1 << 8), 1);
        due("11 sides within but one", x.cover(0, 1 << 1 | 1 << 5 | 1 << 7), 0);
        due("11 of the side", x.cover(2, 1 << 5 | 1 << 6), 1);
        due("11 of the one beside", x.cover(5, 1 << 9 | 1 << 10), 1);
        due("11 another's parent", x.cover(2, 1 << 7 | 1 << 8 | 1 << 5), 1);
        due("11 all", x.cover(0, 8191), 1);
        due("11 a guard that is not", x.cover(0, 8192), BAD);
        due("11 below", x.cover(0, -1), BAD);
        due("11 lowest", x.cover(0, LOWEST), BAD);
        due("11 no such", x.cover(13, 1), BAD);
        due("11 below", x.cover(-1, 1), BAD);
        due("11 with no if", told("").cover(0, 1), 1);
        due("11 with no if, 2", told("").cover(0, 2), BAD);
        due("11 whatever its variable has", told("if a 1{}{}if a 1{}{}").cover(1, 1 << 3), 0);
    }

    private static void run() {
        GuardedCode x = told("add e a b;sub f a b;mul g c d;div h c d;");
        due("12 run", x.run(7, 9, -17, 5), 4);
        due("12 a", x.value(0), 7);
        due("12 d", x.value(3), 5);
        due("12 add", x.value(4), 16);
        due("12 sub", x.value(5), -2);
        due("12 mul", x.value(6), -85);
        due("12 div is towards 0", x.value(7), -3);
        due("12 run beyond", x.run(HIGHEST, 1, LOWEST, -1), 4);
        due("12 add beyond", x.value(4), LOWEST);
        due("12 mul beyond", x.value(6), LOWEST);
        due("12 div beyond", x.value(7), LOWEST);
        x = told("if a 5{put a 0;put b 11;}{put b 22;put a 1;}put c 33;");
        due("12 yes", x.run(1, 0, 0, 0), 4);
        due("12 its guard holds by what was", x.value(1), 11);
        due("12 no", x.run(0, 0, 0, 0), 4);
        due("12 no at 0", x.value(1), 22);
        due("12 no below", x.run(-1, 0, 0, 0), 4);
        due("12 no below", x.value(1), 22);
        due("12 others begin with 0", told("add a e f;").run(9, 9, 9, 9), 1);
        x = told("if a 5{if b 5{put e 1;}{put e 2;put f 2;}}{}put g 3;");
        due("12 an if not done", x.run(0, 1, 0, 0), 2);
        due("12 neither holds", x.value(4), 0);
        due("12 neither holds", x.value(5), 0);
        due("12 an if done", x.run(1, 0, 0, 0), 5);
        due("12 with no instructions", told("").run(1, 2, 3, 4), 0);
    }

    private static void runStops() {
        GuardedCode x = told("put e 5;if a 5{div e b c;}{}put f 6;div f f d;put g 7;");
        due("12 stops in a side", x.run(1, 1, 0, 1), -12);
        due("12 not done", x.value(4), 5);
        due("12 nothing behind it", x.value(5), 0);
        due("12 not where its guard does not hold", x.run(0, 1, 0, 1), 5);
        due("12 stops behind", x.run(0, 1, 0, 0), -14);
        due("12 what was put", x.value(5), 6);
        due("12 the first instruction stops", told("div a a b;").run(1, 0, 0, 0), -10);
    }

    private static void value() {
        GuardedCode x = told("put h 8;");
        due("13 no run", x.value(7), 0);
        due("13 no such, no run", x.value(8), -1);
        x.run(1, -1, 3, 4);
        due("13 h", x.value(7), 8);
        due("13 -1", x.value(1), -1);
        due("13 above", x.value(8), -1);
        due("13 below", x.value(-1), -1);
        x.set(0, 2, 9);
        x.sweep();
        x.merge();
        x.runs(1, 5, 0);
        due("13 stays", x.value(7), 8);
        Check.tell(x, "foo");
        due("13 a text that is refused", x.value(7), 8);
        x.keep(0);
        due("13 keep", x.value(7), 8);
        x.back(0);
        due("13 back", x.value(7), 0);
        x.run(1, 2, 3, 4);
        Check.tell(x, "");
        due("13 text", x.value(0), 0);
    }

    private static void spent() {
        String text = "if a 5{if b 5{put e 1;}{div e e e;}}{mul f f f;}";
        GuardedCode x = told(text);
        due("14 none", x.spent(), NONE);
        x.want(0, 1);
        x.want(1, 0);
        x.run(0, 0, 0, 0);
        due("14 guarded: all", x.spent(), 1 + 1 + 1 + 4 + 1);
        x.want(0, 0);
        due("14 by what was guarded then", x.spent(), 8);
        x.run(0, 0, 0, 0);
        due("14 jumped: no", x.spent(), 4 + 1);
        x.run(1, 1, 0, 0);
        due("14 jumped: yes, yes", x.spent(), 4 + 4 + 1);
        due("14 stops", x.run(1, 0, 0, 0), -13);
        due("14 jumped: the div that stops", x.spent(), 4 + 4 + 4);
        x.want(1, 1);
        x.run(1, 1, 0, 0);
        due("14 guarded in a jumped one", x.spent(), 4 + 1 + 1 + 4);
        x.run(0, 1, 0, 0);
        due("14 guarded, not come to", x.spent(), 4 + 1);
        x.want(0, 1);
        x.run(1, 0, 0, 0);
        due("14 a stop ends it", x.spent(), 1 + 1 + 1 + 4);
        x.runs(3, 9, 1);
        due("14 runs are not the latest", x.spent(), 7);
        x.keep(1);
        x.back(1);
        due("14 back", x.spent(), NONE);
        x = told("");
        x.run(1, 1, 1, 1);
        due("14 nothing", x.spent(), 0);
    }

    private static void runs() {
        GuardedCode x = told("if a 5{}{}div c a a;");
        due("15 not stopped", x.runs(7, 50, 0), 44);
        due("15 spend", x.runs(7, 50, 1), 250);
        due("15 none is the latest", x.spent(), NONE);
        due("15 n 0", x.runs(7, 0, 0), BAD);
        due("15 n above", x.runs(7, 101, 0), BAD);
        due("15 n below", x.runs(7, LOWEST, 0), BAD);
        due("15 what above", x.runs(7, 1, 2), BAD);
        due("15 what below", x.runs(7, 1, -1), BAD);
        int[] seeds = {0, 1, -1, LOWEST, HIGHEST, 123456789};
        for (int seed : seeds) {
            due("15 by its words " + seed, x.runs(seed, 100, 0), unstopped(seed, 100));
            due("15 one " + seed, x.runs(seed, 1, 0), unstopped(seed, 1));
        }
        due("15 with no instructions", told("").runs(5, 100, 0), 100);
        due("15 with no instructions", told("").runs(5, 100, 1), 0);
    }

    /** How many of n RUNS have an a that is not 0. */
    private static int unstopped(int seed, int n) {
        long now = seed;
        int many = 0;
        for (int r = 0; r < n; r++) {
            for (int v = 0; v < 4; v++) {
                now = Math.floorMod(now * 1103515245L + 12345L, 1L << 32);
                long number = Math.floorMod(now / 65536, 32768) % 9 - 4;
                many += v == 0 && number != 0 ? 1 : 0;
            }
        }
        return many;
    }

    private static void wishAndWant() {
        GuardedCode x = told(FOREST);
        for (int j = 0; j < 6; j++) {
            due("16 at first", x.wish(j, 0), 2);
            due("17 what it was", x.want(j, 0), 2);
            due("16 jumped", x.wish(j, 1), 0);
        }
        due("17 0", x.want(2, 1), 0);
        due("16 1", x.wish(2, 0), 1);
        due("16 guarded", x.wish(2, 1), 1);
        due("16 in a side of one that is", x.wish(3, 1), 1);
        due("16 its wish stays", x.wish(3, 0), 0);
        due("16 what it is in is not", x.wish(0, 1), 0);
        due("16 the one beside is not", x.wish(1, 1), 0);
        due("6 how many", x.rule(4), 2);
        due("17 1", x.want(2, 2), 1);
        due("17 v above", x.want(2, 3), BAD);
        due("17 v below", x.want(2, -1), BAD);
        due("17 no such", x.want(6, 0), BAD);
        due("17 below", x.want(-1, 0), BAD);
        due("16 refused changes nothing", x.wish(2, 0), 2);
        due("16 no such", x.wish(6, 0), BAD);
        due("16 below", x.wish(-1, 0), BAD);
        due("16 what above", x.wish(0, 2), BAD);
        due("16 what below", x.wish(0, -1), BAD);
    }

    private static void guardedByCost() {
        // FLAT 5; MEAN 4 and half of 4: 6
        due("16 flat is less", told("if a 5{div a a a;}{}").wish(0, 1), 1);
        // FLAT 9; MEAN 4 and 4
        due("16 flat is more", told("if a 5{div a a a;}{div a a a;}").wish(0, 1), 0);
        // FLAT 5; MEAN 4 and 1
        due("16 flat is no more", told("if a 10{put a 1;}{put a 1;put a 2;}").wish(0, 1), 1);
        due("16 flat is as much", told("if a 5{put a 1;put a 1;put a 1;}{put a 1;put a 1;put a 1;}").wish(0, 1), 1);
        due("16 flat is more by one", told("if a 0{put a 1;put a 1;put a 1;put a 1;}{}").wish(0, 1), 0);
        // the inner one is jumped by its WISH, which makes the outer one's MEAN dear enough to be GUARDED
        GuardedCode x = told("if a 10{if b 5{put a 1;}{}put c 1;}{put d 1;put d 1;put d 1;put d 1;}");
        due("16 inner guarded", x.wish(0, 1), 0);
        due("16 inner", x.wish(1, 1), 1);
        x.want(1, 0);
        due("16 with all in it as they would be then", x.wish(0, 1), 1);
        due("16 which guards the inner one", x.wish(1, 1), 1);
        due("18 its mean is its flat then", x.mean(0), 8);
    }

    private static void mean() {
        GuardedCode x = told("put d 9;if d 3{if e 5{put e 1;}{}}{add e e d;}sub f e d;");
        due("18 guarded", x.mean(0), 6);
        due("18 guarded", x.mean(1), 1);
        x.want(0, 0);
        due("18 jumped", x.mean(0), 73);
        due("18 jumped", x.mean(1), 10);
        x.want(1, 0);
        due("18 both jumped", x.mean(0), 161);
        due("18 both jumped", x.mean(1), 20);
        due("18 what above", x.mean(2), BAD);
        due("18 what below", x.mean(-1), BAD);
        x = told(DEEP.replace("a 1", "a 9"));
        for (int j = 0; j < 6; j++) {
            x.want(j, 0);
        }
        // 4.444440 and 0.000001 of 1
        due("18 six deep", x.mean(0), 4444441);
        due("18 six deep", x.mean(1), 1000000);
        due("18 div", told("div a a a;").mean(0), 4);
    }

    private static void odds() {
        GuardedCode x = told(DEEP);
        due("19 always", x.odds(0, 0), 1);
        due("19 always", x.odds(0, 1), 1);
        due("19 yes", x.odds(1, 0), 1);
        due("19 yes", x.odds(1, 1), 10);
        due("19 no", x.odds(2, 0), 9);
        due("19 six deep", x.odds(12, 0), 531441);
        due("19 six deep", x.odds(12, 1), 1000000);
        due("19 no such", x.odds(13, 0), BAD);
        due("19 below", x.odds(-1, 0), BAD);
        due("19 what above", x.odds(0, 2), BAD);
        due("19 what below", x.odds(0, -1), BAD);
        x = told("if a 5{if a 4{}{}}{if a 0{}{}}");
        due("19 lowest terms", x.odds(3, 0), 1);
        due("19 lowest terms", x.odds(3, 1), 5);
        due("19 lowest terms", x.odds(4, 0), 3);
        due("19 lowest terms", x.odds(4, 1), 10);
        due("19 0", x.odds(5, 0), 0);
        due("19 0 by 1", x.odds(5, 1), 1);
        due("19 10 of ten", x.odds(6, 1), 2);
    }

    private static void live() {
        GuardedCode x = told("put a 1;put a 2;if b 5{add c a a;}{put a 3;}add a a a;");
        due("20 a target again", x.live(0), 0);
        due("20 read in a side", x.live(1), 1);
        due("20 an if", x.live(2), BAD);
        due("20 out", x.live(3), 1);
        due("20 read by one that is a target, too", x.live(4), 1);
        due("20 the last", x.live(5), 1);
        due("20 no such", x.live(6), BAD);
        due("20 below", x.live(-1), BAD);
        x.out(0);
        due("20 not out", x.live(3), 0);
        due("20 not out", x.live(5), 0);
        due("20 read by one that is not live", x.live(4), 1);
        x = told("put a 1;if b 5{put a 2;}{}");
        due("20 not a target again by some way", x.live(0), 1);
        x = told("put a 1;if b 5{put a 2;}{put a 3;}");
        due("20 a target again by all ways", x.live(0), 0);
        x = told("put b 1;if b 5{}{}put b 2;");
        due("20 read by an if", x.live(0), 1);
        x = told("if a 5{put b 1;}{add c b b;}put b 2;");
        due("20 read in the other side alone", x.live(1), 0);
        x = told("if a 5{put b 1;}{}if a 5{}{add c b b;}put b 2;");
        due("20 whatever its variable has", x.live(1), 1);
        x = told("if a 10{}{put b 1;}");
        due("20 whatever its tenths", x.live(1), 1);
        x = told("add a a a;");
        x.out(0);
        due("20 not read by itself", x.live(0), 0);
        x = told("div a a b;put a 1;");
        due("20 a div", x.live(0), 0);
        x = told("if a 5{put b 1;if c 5{put b 2;}{}}{}");
        x.out(2);
        due("20 within one another", x.live(1), 1);
        x.out(253);
        due("20 not in out", x.live(1), 0);
    }

    private static void out() {
        GuardedCode x = told("put a 1;");
        due("21 at first", x.out(0), 255);
        due("21 0", x.out(255), 0);
        due("21 above", x.out(256), BAD);
        due("21 below", x.out(-1), BAD);
        due("21 refused changes nothing", x.rule(3), 255);
        x.out(9);
        due("6 out", x.rule(3), 9);
    }

    private static void sweep() {
        GuardedCode x = told("put a 1;add b a a;mul c b b;div d a a;if e 5{sub f c c;}{}put h 3;");
        due("22 all is live", x.sweep(), 0);
        x.out(128);
        due("22 one behind another", x.sweep(), 3);
        due("22 left", x.rule(0), 4);
        due("22 what a div reads stays", x.code(0, 0), 0);
        due("22 a div stays", x.code(1, 0), 4);
        due("22 an if stays", x.code(2, 0), 5);
        due("22 numbered anew", x.guard(1, 1), 2);
        due("22 numbered anew", x.code(3, 1), 7);
        due("22 under", x.guard(1, 3), 0);
        due("22 again", x.sweep(), 0);
        x = told("put a 1;put a 2;put a 3;");
        due("22 all at once", x.sweep(), 2);
        due("22 the last is left", x.code(0, 2), 3);
        x = told("if a 5{put b 1;}{if c 5{put b 2;}{put b 3;}}put b 4;");
        x.want(1, 0);
        due("22 in sides", x.sweep(), 3);
        due("22 wishes stay", x.wish(1, 0), 0);
        due("22 the guard of the inner if", x.code(1, 4), 2);
        due("22 its place", x.guard(3, 1), 1);
        due("22 what is behind", x.code(2, 4), 0);
        StringBuilder chain = new StringBuilder();
        for (int i = 0; i < 24; i++) {
            chain.append("add a a a;");
        }
        x = told(chain.toString());
        x.out(0);
        due("22 a chain, one at a time", x.sweep(), 24);
        due("22 nothing is left", x.rule(0), 0);
    }

    private static void merge() {
        GuardedCode x = told("put h 1;if a 5{put b 1;add c b b;}{put b 1;add c b b;put d 1;}put e 1;");
        due("23 twice", x.merge(), 2);
        due("23 left", x.rule(0), 6);
        int[][] rows = {{0, 7, 1, NONE, 0}, {0, 1, 1, NONE, 0}, {1, 2, 1, 1, 0}, {5, 0, 5, NONE, 0}, {0, 3, 1, NONE, 2}, {0, 4, 1, NONE, 0}};
        for (int i = 0; i < rows.length; i++) {
            for (int what = 0; what < 5; what++) {
                due("23 code " + i + " " + what, x.code(i, what), rows[i][what]);
            }
        }
        due("23 the if", x.guard(1, 1), 3);
        due("23 again", x.merge(), 0);
        due("23 another number", told("if a 5{put b 1;}{put b 2;}").merge(), 0);
        due("23 another target", told("if a 5{put b 1;}{put c 1;}").merge(), 0);
        due("23 another kind", told("if a 5{add b c d;}{sub b c d;}").merge(), 0);
        due("23 another first", told("if a 5{add b c d;}{add b d d;}").merge(), 0);
        due("23 another second", told("if a 5{add b c d;}{add b c c;}").merge(), 0);
        due("23 the other way round", told("if a 5{add b c d;}{add b d c;}").merge(), 0);
        due("23 its variable", told("if a 5{put a 1;}{put a 1;}").merge(), 0);
        due("23 reads its variable", told("if a 5{add b a a;}{add b a a;}").merge(), 1);
        due("23 div", told("if a 5{div b c d;}{div b c d;}").merge(), 1);
        due("23 not the first", told("if a 5{put c 1;put b 1;}{put b 1;}").merge(), 0);
        due("23 a side of nothing", told("if a 5{put c 1;}{}").merge(), 0);
        due("23 a side of nothing", told("if a 5{}{put c 1;}").merge(), 0);
        due("23 ifs", told("if a 5{if b 5{}{}}{if b 5{}{}}").merge(), 0);
        due("23 an if first", told("if a 5{if b 5{}{}put c 1;}{put c 1;}").merge(), 0);
    }

    private static void mergeInside() {
        GuardedCode x = told("if a 5{if b 5{put c 1;}{put c 1;}}{put c 1;put d 1;}");
        x.want(0, 0);
        x.want(1, 1);
        due("23 of the inner, then of the outer", x.merge(), 2);
        due("23 left", x.rule(0), 4);
        due("23 ahead", x.code(0, 0), 0);
        due("23 ahead", x.code(0, 4), 0);
        due("23 the outer", x.code(1, 6), 0);
        due("23 the inner", x.code(2, 6), 1);
        due("23 its guard", x.code(2, 4), 1);
        due("23 the other side", x.code(3, 4), 2);
        due("23 wishes stay", x.wish(0, 0), 0);
        due("23 wishes stay", x.wish(1, 0), 1);
        x = told("if a 5{put e 1;if b 5{put c 1;}{put c 1;}}{put d 1;}");
        due("23 of the inner alone", x.merge(), 1);
        due("23 right ahead of it", x.code(2, 1), 2);
        due("23 under its guard", x.code(2, 4), 1);
        due("23 the inner if", x.code(3, 6), 1);
        x = told("if a 5{put b 1;}{put b 1;}");
        x.run(1, 0, 0, 0);
        x.merge();
        due("23 the run stays", x.spent(), 4 - 1);
        x = told("if b 5{put a 1;}{put a 1;}if a 5{put a 1;}{put a 1;}");
        due("23 the first alone", x.merge(), 1);
        due("23 the second stays", x.guard(3, 3), 1);
    }

    private static void set() {
        GuardedCode x = told("put a 1;add b c d;if e 5{}{}");
        int[][] bounds = {{7, 99, BAD}, {7, 7, 7}, {7, 10, BAD}};
        for (int i = 0; i < 3; i++) {
            for (int what = 1; what <= 3; what++) {
                int most = bounds[i][what - 1];
                if (most == BAD) {
                    due("24 no such part", x.set(i, what, 0), BAD);
                    continue;
                }
                int was = x.code(i, what);
                due("24 above", x.set(i, what, most + 1), BAD);
                due("24 below", x.set(i, what, -1), BAD);
                due("24 refused changes nothing", x.code(i, what), was);
                due("24 the greatest", x.set(i, what, most), was);
                due("24 the least", x.set(i, what, 0), most);
                due("24 what it becomes", x.code(i, what), 0);
            }
            due("24 what 0", x.set(i, 0, 0), BAD);
            due("24 what 4", x.set(i, 4, 0), BAD);
        }
        due("24 no such", x.set(3, 1, 0), BAD);
        due("24 below", x.set(-1, 1, 0), BAD);
        due("24 lowest", x.set(LOWEST, LOWEST, LOWEST), BAD);
        x = told("if a 5{put b 1;}{put b 2;}");
        x.set(0, 2, 10);
        due("24 tenths", x.odds(2, 0), 0);
        x.set(0, 1, 2);
        x.run(0, 0, 1, 0);
        due("24 the variable of an if", x.value(1), 1);
    }

    private static void turn() {
        GuardedCode x = told("put a 1;add b c d;if e 5{}{}");
        due("25 sub", x.turn(1, 2), 1);
        due("25 mul", x.turn(1, 3), 2);
        due("25 div", x.turn(1, 4), 3);
        due("25 its flat", x.code(1, 5), 4);
        due("25 add", x.turn(1, 1), 4);
        due("25 itself", x.turn(1, 1), 1);
        due("25 to put", x.turn(1, 0), BAD);
        due("25 to if", x.turn(1, 5), BAD);
        due("25 of put", x.turn(0, 1), BAD);
        due("25 of if", x.turn(2, 1), BAD);
        due("25 no such", x.turn(3, 1), BAD);
        due("25 below", x.turn(-1, 1), BAD);
        due("25 refused changes nothing", x.code(1, 0), 1);
    }

    private static void keepAndBack() {
        GuardedCode x = told("if a 5{put b 1;}{put b 1;}put c 9;");
        x.want(0, 0);
        x.out(6);
        due("27 none", x.back(0), STATE);
        due("27 above", x.back(2), BAD);
        due("27 below", x.back(-1), BAD);
        due("26 above", x.keep(2), BAD);
        due("26 below", x.keep(-1), BAD);
        due("26 there was none", x.keep(0), 0);
        due("26 there was one", x.keep(0), 1);
        due("32 images", x.count(0), 1);
        due("27 none of the other", x.back(1), STATE);
        x.run(1, 2, 3, 4);
        due("27 refused changes nothing", x.back(1), STATE);
        due("27 refused changes nothing", x.value(3), 4);
        x.merge();
        x.want(0, 1);
        x.out(4);
        x.set(1, 1, 5);
        due("26 the other", x.keep(1), 0);
        due("32 images", x.count(0), 2);
        due("27 back", x.back(0), 4);
        due("27 no run", x.spent(), NONE);
        due("27 instructions", x.code(2, 1), 1);
        due("27 guards", x.code(2, 4), 2);
        due("27 wishes", x.wish(0, 0), 0);
        due("27 out", x.rule(3), 6);
        x.set(3, 2, 8);
        due("27 the image is its own", x.back(0), 4);
        due("27 the image is its own", x.code(3, 2), 9);
        due("27 back to the other", x.back(1), 3);
        due("27 its wish", x.wish(0, 0), 1);
        due("27 its out", x.rule(3), 4);
        due("27 its if", x.guard(1, 1), 1);
        x = new GuardedCode();
        x.keep(1);
        due("27 of nothing", x.back(1), 0);
    }

    private static void sheet() {
        GuardedCode x = new GuardedCode();
        due("28 k above", x.sheet(4, 0, 1), BAD);
        due("28 k below", x.sheet(-1, 0, 1), BAD);
        due("28 lane above", x.sheet(0, 3, 1), BAD);
        due("28 lane below", x.sheet(0, -1, 1), BAD);
        due("28 n above", x.sheet(0, 0, 41), BAD);
        due("28 n below", x.sheet(0, 0, -1), -14);
        due("28 n lowest", x.sheet(3, 2, LOWEST), -14);
        due("28 bad ahead of size", x.sheet(4, 0, -1), BAD);
        due("28 bad ahead of size", x.sheet(0, 3, -1), BAD);
        due("28 still nothing", x.count(3), NONE);
        due("28 of 40", x.sheet(0, 2, 40), 1);
        due("32 cells", x.count(3), 40);
        due("28 refused changes nothing", x.sheet(0, 0, -1), -14);
        due("28 refused changes nothing", x.sheet(0, 0, 41), BAD);
        due("32 cells", x.count(3), 40);
        due("28 of none", x.sheet(0, 0, 0), 1);
        due("32 cells", x.count(3), 0);
        due("31 a size is not of a read", x.torn(), 0);
        x = told("put c 55;");
        x.sheet(1, 2, 3);
        x.lay(1, 1, 2);
        x.lay(1, 2, 1);
        x.sheet(1, 2, 3);
        x.lay(1, 1, 1);
        due("28 its cells are 0", x.read(1, 2, 0, 1), 1);
        due("28 its cells are 0", x.code(0, 1), 0);
        due("28 its cells are 0", x.code(0, 2), 55);
    }

    private static void lay() {
        GuardedCode x = told("put c 55;");
        due("29 k above", x.lay(4, 0, 0), BAD);
        due("29 k below", x.lay(-1, 0, 0), BAD);
        due("29 nothing", x.lay(0, 99, 0), -11);
        x.sheet(0, 0, 3);
        due("29 below", x.lay(0, -1, 0), -12);
        due("29 above", x.lay(0, 3, 0), -12);
        due("29 highest", x.lay(0, HIGHEST, 0), -12);
        due("29 of none", x.sheet(1, 0, 0), 1);
        due("29 of none", x.lay(1, 0, 0), -12);
        due("29 a cell", x.lay(0, 2, 256 + 99), 1);
        x.lay(0, 1, -254);
        due("29 its lowest 8 bits", x.read(0, 0, 0, 1), 1);
        due("29 its lowest 8 bits", x.code(0, 2), 99);
        x.lay(0, 2, 128);
        due("29 below 0 by 8 bits", x.read(0, 0, 0, 1), -20);
        x.sheet(0, 1, 3);
        x.lay(0, 1, 2 + 65536);
        x.lay(0, 2, 77 - 65536);
        due("29 its lowest 16 bits", x.read(0, 1, 0, 1), 1);
        due("29 its lowest 16 bits", x.code(0, 2), 77);
        x.lay(0, 2, 256 + 66);
        due("29 not 8 bits", x.read(0, 1, 0, 1), -20);
        x.sheet(0, 2, 3);
        x.lay(0, 1, 2 + 65536);
        due("29 all 32 bits", x.read(0, 2, 0, 1), -20);
    }

    private static void change(GuardedCode x, int k, int at, int... cells) {
        for (int c = 0; c < cells.length; c++) {
            due("lay", x.lay(k, at + c, cells[c]), 1);
        }
    }

    private static void read() {
        GuardedCode x = told("put a 1;add b c d;if e 5{}{}");
        x.sheet(2, 1, 40);
        due("30 n 0", x.read(2, 1, 0, 0), 0);
        due("30 n 0 from anywhere", x.read(2, 1, -5, 0), 0);
        due("31 n 0", x.torn(), 0);
        due("30 n above", x.read(2, 1, 0, 14), BAD);
        due("30 n below", x.read(2, 1, 0, -1), BAD);
        due("30 k above", x.read(4, 1, 0, 1), BAD);
        due("30 k below", x.read(-1, 1, 0, 1), BAD);
        due("30 lane above", x.read(2, 3, 0, 1), BAD);
        due("30 lane below", x.read(2, -1, 0, 1), BAD);
        change(x, 2, 1, 0, 2, 44, 1, 3, 7, 2, 1, 6, 0, 2, 45);
        due("30 four", x.read(2, 1, 1, 4), 4);
        due("30 one behind another", x.code(0, 2), 45);
        due("30 the second", x.code(1, 3), 7);
        due("30 the third", x.code(2, 1), 6);
        due("31 none", x.torn(), 0);
        change(x, 2, 7, 2, 3, 0);
        x.set(0, 2, 3);
        x.set(1, 3, 3);
        due("30 the third is refused", x.read(2, 1, 1, 4), -22);
        due("30 then none came", x.code(0, 2), 3);
        due("30 then none came", x.code(1, 3), 3);
        due("30 those ahead of it alone", x.read(2, 1, 1, 2), 2);
        due("30 came", x.code(0, 2), 44);
        change(x, 2, 1, 3);
        due("30 the first is refused", x.read(2, 1, 1, 2), -20);
        StringBuilder puts = new StringBuilder();
        for (int i = 0; i < 13; i++) {
            puts.append("put a 0;");
        }
        x = told(puts.toString());
        x.sheet(0, 0, 40);
        for (int i = 0; i < 13; i++) {
            change(x, 0, 1 + 3 * i, i, 2, i + 50);
        }
        due("30 thirteen", x.read(0, 0, 1, 13), 13);
        due("30 the last", x.code(12, 2), 62);
    }

    private static void readFaults() {
        GuardedCode x = told("put a 1;add b c d;if e 5{}{}");
        due("30 nothing", x.read(3, 0, 0, 1), 0);
        due("31 null", x.torn(), 1);
        x.sheet(3, 2, 8);
        due("30 another lane", x.read(3, 0, 0, 1), 0);
        due("31 cast", x.torn(), 3);
        due("30 another lane, another index", x.read(3, 1, 99, 1), 0);
        due("31 cast ahead of index", x.torn(), 3);
        change(x, 3, 0, 0, 2, 44, 1, 1, 6, 0, 2);
        due("30 two are whole", x.read(3, 2, 0, 3), 2);
        due("31 index", x.torn(), 2);
        due("30 those came", x.code(0, 2), 44);
        due("30 those came", x.code(1, 1), 6);
        due("30 none is whole", x.read(3, 2, 6, 1), 0);
        due("31 index", x.torn(), 2);
        int[] wild = {-1, -3, 8, HIGHEST, HIGHEST - 1, LOWEST};
        for (int f : wild) {
            due("30 all are whole", x.read(3, 2, 0, 2), 2);
            due("31 none", x.torn(), 0);
            due("30 from " + f, x.read(3, 2, f, 13), 0);
            due("31 from " + f, x.torn(), 2);
        }
        change(x, 3, 3, 9);
        due("30 refused ahead of the machine", x.read(3, 2, 0, 3), -21);
        change(x, 3, 0, 9);
        due("30 the first met", x.read(3, 2, 0, 3), -20);
        due("30 the machine first", x.read(3, 1, 0, 3), 0);
    }

    private static void torn() {
        GuardedCode x = told("put a 1;");
        due("31 at first", x.torn(), 0);
        x.read(0, 0, 0, 1);
        due("31 null", x.torn(), 1);
        x.read(0, 0, 0, 14);
        due("31 a read that is bad is none", x.torn(), 1);
        x.sheet(0, 0, 3);
        x.lay(0, 9, 9);
        due("31 a lay is none", x.torn(), 1);
        due("30 refused", x.read(0, 0, 0, 1), -20);
        due("31 a read that is refused came to no end", x.torn(), 1);
        x.lay(0, 1, 1);
        x.read(0, 0, 0, 1);
        due("31 none", x.torn(), 0);
        x.read(0, 0, 1, 1);
        Check.tell(x, "put a 1;");
        due("31 a text is none", x.torn(), 2);
    }

    private static void count() {
        GuardedCode x = told("put a 30;div a b c;if d 4{put e 12;div f f f;if g 7{}{}}{}");
        due("32 images", x.count(0), 0);
        due("32 div", x.count(1), 2);
        due("32 tape", x.count(2), 0);
        x.feed(65);
        due("32 tape", x.count(2), 1);
        due("32 nothing", x.count(3), NONE);
        x.sheet(1, 0, 5);
        due("32 of sheet 0", x.count(3), NONE);
        x.sheet(0, 2, 7);
        due("32 cells", x.count(3), 7);
        due("32 numbers", x.count(4), 42);
        due("32 tenths", x.count(5), 11);
        due("32 above", x.count(6), BAD);
        due("32 below", x.count(-1), BAD);
        due("5 of the latest text", x.text(), -10);
        due("32 tape", x.count(2), 0);
    }
}
