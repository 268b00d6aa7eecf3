/** "Terms": the answers, and the first part (a text, its GUARDS, its FAULTS). */
final class TermsEdges extends Edges {
    private static final String SIX_IFS = "if a 1{}{}if a 1{}{}if a 1{}{}if a 1{}{}if a 1{}{}if a 1{}{}";
    /** As deep as may be: each in yes of the one before. */
    private static final String DEEP = "if a 1{if a 1{if a 1{if a 1{if a 1{if a 1{put h 1;}{}}{}}{}}{}}{}}{}";

    static void all() {
        answers();
        refusedCalls();
        refusedTexts();
        fractions();
        variables();
        instructions();
        kinds();
        ifs();
        out();
        guards();
        within();
        tape();
        tokens();
        grammar();
        faults();
        faultOfNoToken();
        faultOfPlace();
        faultOfTooMany();
        takenTextTellsAll();
    }

    private static void answers() {
        says(0, "Answers: BAD -1 (a number is not as told, there is no such INSTRUCTION, IF, GUARD, IMAGE, SHEET),");
        GuardedCode x = new GuardedCode();
        due("BAD", GuardedCode.BAD, -1);
        due("no such INSTRUCTION", x.code(0, 0), -1);
        due("no such IF", x.wish(0, 0), -1);
        due("no such GUARD", x.guard(1, 0), -1);
        due("no such IMAGE", x.back(2), -1);
        due("no such SHEET", x.lay(4, 0, 0), -1);
        says(0, "STATE -2 (as told), FULL -3, NONE -4 (there is none), the first that fits;");
        due("STATE", GuardedCode.STATE, -2);
        due("FULL", GuardedCode.FULL, -3);
        due("NONE", GuardedCode.NONE, -4);
        due("STATE", x.back(0), -2);
        due("NONE", x.spent(), -4);
        due("BAD ahead of STATE", x.back(-1), -1);
        due("BAD ahead of NONE", x.guard(0, 4), -1);
        due("BAD ahead of a FAULT's answer", x.sheet(4, 0, -1), -1);
        Check.feedAll(x, times(320, " "));
        due("FULL", x.feed(32), -3);
        due("BAD ahead of FULL", x.feed(-1), -1);
    }

    private static void refusedCalls() {
        says(0, "what is refused changes nothing (but THE TAPE, as told).");
        refused("feed", BAD, x -> x.feed(128));
        refused("end below", BAD, x -> x.end(-1));
        refused("end above", BAD, x -> x.end(4));
        refused("rule", BAD, x -> x.rule(6));
        refused("code", BAD, x -> x.code(5, 0));
        refused("guard", BAD, x -> x.guard(3, 0));
        refused("within", BAD, x -> x.within(3, 0));
        refused("apart", BAD, x -> x.apart(0, 3));
        refused("cover", BAD, x -> x.cover(0, 8));
        refused("value", BAD, x -> x.value(8));
        refused("runs", BAD, x -> x.runs(1, 101, 0));
        refused("wish", BAD, x -> x.wish(1, 0));
        refused("want, no such", BAD, x -> x.want(1, 0));
        refused("want above", BAD, x -> x.want(0, 3));
        refused("want below", BAD, x -> x.want(0, -1));
        refused("mean", BAD, x -> x.mean(2));
        refused("odds", BAD, x -> x.odds(3, 0));
        refused("live", BAD, x -> x.live(0));
        refused("out above", BAD, x -> x.out(256));
        refused("out below", BAD, x -> x.out(-1));
        refused("set target", BAD, x -> x.set(1, 1, 8));
        refused("set number", BAD, x -> x.set(1, 2, 100));
        refused("set the third of put", BAD, x -> x.set(1, 3, 0));
        refused("set tenths", BAD, x -> x.set(0, 2, 11));
        refused("set below", BAD, x -> x.set(2, 2, -1));
        refused("turn of put", BAD, x -> x.turn(1, 1));
        refused("turn to put", BAD, x -> x.turn(2, 0));
        refused("turn to if", BAD, x -> x.turn(2, 5));
        refused("keep", BAD, x -> x.keep(2));
        refused("back", BAD, x -> x.back(2));
        refused("sheet of 41", BAD, x -> x.sheet(0, 0, 41));
        refused("sheet of a lane", BAD, x -> x.sheet(0, 3, 4));
        refused("sheet of -1", -14, x -> x.sheet(0, 0, -1));
        refused("lay on none", BAD, x -> x.lay(4, 0, 1));
        refused("lay on nothing", -11, x -> x.lay(3, 0, 1));
        refused("lay beyond", -12, x -> x.lay(0, 10, 1));
        refused("lay below", -12, x -> x.lay(0, -1, 1));
        refused("read of none", BAD, x -> x.read(4, 0, 0, 1));
        refused("read of 14", BAD, x -> x.read(0, 0, 0, 14));
        refused("read that set refuses", -22, x -> x.read(0, 0, 0, 3));
        refused("read that set refuses at first", -20, x -> x.read(0, 0, 1, 1));
        refused("count", BAD, x -> x.count(6));
    }

    private static void refusedTexts() {
        // as told: a text that is refused leaves all but THE TAPE, which is empty then, and its FAULT
        GuardedCode x = rich();
        x.feed(63);
        due("a text that is refused", x.text(), -13);
        due("THE TAPE is empty then", x.count(2), 0);
        due("its FAULT", x.fault(), 1);
        Check.feedAll(x, "put");
        changedNothing("a text that is refused", x);
        GuardedCode y = new GuardedCode();
        Check.feedAll(y, "put a 1;" + times(312, " "));
        due("FULL", y.feed('?'), FULL);
        due("FULL leaves THE TAPE", y.text(), 1);
        y.run(1, 2, 3, 4);
        y.set(0, 2, 5);
        due("STATE", y.back(0), STATE);
        due("STATE leaves the RUN", y.value(3), 4);
        due("STATE leaves INSTRUCTIONS", y.code(0, 2), 5);
    }

    private static void fractions() {
        says(0, "Fractions are in lowest terms, the denominator above 0 (0 is 0 by 1).");
        GuardedCode x = told("if a 5{if b 8{}{}}{if c 0{}{}}if d 10{}{}");
        odds(x, 0, 1, 1);
        odds(x, 1, 1, 2);
        odds(x, 3, 2, 5);
        odds(x, 4, 1, 10);
        odds(x, 5, 0, 1);
        odds(x, 6, 1, 2);
        odds(x, 7, 1, 1);
        odds(x, 8, 0, 1);
        mean(new GuardedCode(), 0, 1);
        mean(told("div a b c;"), 4, 1);
        GuardedCode y = told("if a 5{put b 1;}{}if a 8{put b 1;}{}if a 7{put b 1;}{}");
        y.want(0, 0);
        y.want(1, 1);
        y.want(2, 1);
        mean(y, 17, 2);
        y.want(1, 0);
        y.want(0, 1);
        mean(y, 44, 5);
        y.want(2, 0);
        mean(y, 23, 2);
    }

    private static void variables() {
        says(0, "VARIABLES 0 to 7 (a to h).");
        GuardedCode x = told("put a 1;put h 8;");
        due("a", x.code(0, 1), 0);
        due("h", x.code(1, 1), 7);
        fault("put i 1;", 2, 4);
        due("of a RUN, -1", x.value(-1), -1);
        due("of a RUN, 8", x.value(8), -1);
        x.run(0, 0, 0, 0);
        due("of a RUN, 0", x.value(0), 1);
        due("of a RUN, 7", x.value(7), 8);
        due("7 by set()", x.set(0, 1, 7), 0);
        due("8 by set()", x.set(0, 1, 8), BAD);
    }

    private static void instructions() {
        says(0, "INSTRUCTIONS 0 on (24 at most), numbered as they are told, each of a KIND:");
        GuardedCode x = new GuardedCode();
        due("24", tell(x, times(20, "put a 1;") + "if b 1{put c 2;}{put d 3;}put e 4;"), 24);
        due("below the first", x.code(-1, 0), BAD);
        due("the first", x.code(0, 0), 0);
        due("the if", x.code(20, 1), 1);
        due("in yes", x.code(21, 1), 2);
        due("in no", x.code(22, 1), 3);
        due("the last", x.code(23, 1), 4);
        due("beyond the last", x.code(24, 0), BAD);
        due("none of 25 are told", tell(x, times(20, "put a 1;") + "if b 1{put c 2;}{put d 3;}put e 4;put f 5;"), -10 - 194);
        due("those told ahead stay", x.rule(0), 24);
        due("of nothing", new GuardedCode().code(0, 0), BAD);
    }

    private static void kinds() {
        says(0, "0 put (a TARGET becomes a NUMBER, 0 to 99),");
        GuardedCode x = told("put a 0;put h 99;");
        codes(x, new int[][] {{0, 0, 0, NONE, 0}, {0, 7, 99, NONE, 0}});
        x.run(5, 0, 0, 0);
        due("0", x.value(0), 0);
        due("99", x.value(7), 99);
        says(0, "1 add, 2 sub, 3 mul, 4 div (a TARGET becomes what two VARIABLES bring),");
        x = told("add e a b;sub f a b;mul g a b;div h a b;");
        codes(x, new int[][] {{1, 4, 0, 1, 0}, {2, 5, 0, 1, 0}, {3, 6, 0, 1, 0}, {4, 7, 0, 1, 0}});
        x.run(14, 4, 0, 0);
        due("add", x.value(4), 18);
        due("sub", x.value(5), 10);
        due("mul", x.value(6), 56);
        due("div", x.value(7), 3);
        says(0, "5 if (a VARIABLE, TENTHS, 0 to 10; two SIDES, yes and no, of INSTRUCTIONS each).");
        x = told("if h 0{}{}if a 10{put b 1;put c 2;}{put d 3;}");
        codes(x, new int[][] {{5, 7, 0, NONE, 0}, {5, 0, 10, NONE, 0}, {0, 1, 1, NONE, 3}, {0, 2, 2, NONE, 3}, {0, 3, 3, NONE, 4}});
        fault("if a 11{}{}", 3, 5);
    }

    private static void ifs() {
        says(0, "IFS 0 on (6 at most): those that are if, by order.");
        GuardedCode x = told("put a 1;if b 1{if c 2{}{}put a 2;}{if d 3{}{}}if e 4{}{}put a 3;if f 5{}{}if g 6{}{}");
        int[] places = {1, 2, 4, 5, 7, 8};
        for (int j = 0; j < 6; j++) {
            due("IF of " + places[j], x.code(places[j], 6), j);
            due("maker", x.guard(2 * j + 1, 1), places[j]);
            due("wish", x.wish(j, 0), 2);
        }
        due("those that are not if", x.code(0, 6), NONE);
        due("those that are not if", x.code(6, 6), NONE);
        due("six", x.rule(1), 6);
        due("below", x.wish(-1, 0), BAD);
        due("the 7th", x.wish(6, 0), BAD);
        due("none", new GuardedCode().wish(0, 0), BAD);
        fault(SIX_IFS + "if", 5, 60);
        taken(SIX_IFS, 6);
    }

    private static void out() {
        says(0, "OUT: which VARIABLES are asked for in the end (bits; 255 at first).");
        GuardedCode x = new GuardedCode();
        due("at first", x.rule(3), 255);
        tell(x, "put a 1;put h 1;");
        due("a", x.live(0), 1);
        x.out(254);
        due("a, not asked for", x.live(0), 0);
        due("h", x.live(1), 1);
        x.out(127);
        due("h, not asked for", x.live(1), 0);
        says(0, "OUT is no part of a text; a text that is taken makes it 255.");
        x.out(3);
        due("refused", tell(x, "put"), -13);
        due("stays by one that is refused", x.rule(3), 3);
        due("an empty one is taken", x.text(), 0);
        due("is 255 by one that is taken", x.rule(3), 255);
    }

    private static void guards() {
        says(0, "GUARDS: 0 always holds; IF j makes 2 j and 1 (yes), 2 j and 2 (no).");
        GuardedCode x = told(SIX_IFS);
        for (int j = 0; j < 6; j++) {
            due("yes of " + j, x.guard(2 * j + 1, 1), j);
            due("no of " + j, x.guard(2 * j + 2, 1), j);
            due("0 holds with yes", x.apart(0, 2 * j + 1), 0);
            due("0 holds whenever no does", x.cover(2 * j + 2, 1), 1);
        }
        odds(x, 0, 1, 1);
        due("beyond the last", x.guard(13, 0), BAD);
        due("below the first", x.guard(-1, 0), BAD);
        due("0 is there with no if", new GuardedCode().guard(0, 2), 0);
        due("1 is not", new GuardedCode().guard(1, 2), BAD);
        says(0, "An INSTRUCTION stands under the GUARD of the SIDE that it is in, else under 0;");
        x = told("put a 1;if b 1{put a 2;if c 2{put a 3;}{put a 4;}put a 5;}{put a 6;}put a 7;");
        int[] under = {0, 0, 1, 1, 3, 4, 1, 2, 0};
        for (int i = 0; i < under.length; i++) {
            due("guard of " + i, x.code(i, 4), under[i]);
        }
        says(0, "that is also what the GUARDS of an if are within (their parent).");
        int[] parents = {NONE, 0, 0, 1, 1};
        for (int g = 0; g < parents.length; g++) {
            due("parent of " + g, x.guard(g, 0), parents[g]);
        }
    }

    private static void within() {
        says(0, "WITHIN: one is within another, if that is it, or its parent is within that.");
        GuardedCode x = told(DEEP);
        int[] yes = {0, 1, 3, 5, 7, 9, 11};
        for (int inner = 0; inner < yes.length; inner++) {
            for (int outer = 0; outer < yes.length; outer++) {
                due(yes[inner] + " within " + yes[outer], x.within(yes[inner], yes[outer]), outer <= inner ? 1 : 0);
            }
        }
        due("its other side", x.within(11, 12), 0);
        due("the other side of a parent", x.within(11, 2), 0);
        due("no of the deepest", x.within(12, 9), 1);
        says(0, "DEPTH of a GUARD: how many it is within, but itself.");
        for (int depth = 0; depth < yes.length; depth++) {
            due("depth of " + yes[depth], x.guard(yes[depth], 2), depth);
        }
        due("depth of 12", x.guard(12, 2), 6);
    }

    private static void tape() {
        says(0, "THE TAPE has 320 bytes, places from 0.");
        GuardedCode x = new GuardedCode();
        for (int n = 1; n <= 320; n++) {
            due("byte " + n, x.feed(n == 320 ? '?' : ' '), n);
        }
        due("the 321st", x.feed(' '), FULL);
        due("the last place", x.text(), -10 - 319);
        due("the first place", tell(x, "?"), -10);
    }

    private static void tokens() {
        says(0, "TOKENS, each as long as may be, blanks (32) between: NAMES (a .. z), NUMBERS (1 or 2 figures), one of ; { }");
        taken("put a 1;", 1);
        taken("  put  a  1  ;  ", 1);
        taken("put a1;", 1);
        taken("if a5{put b1;}{}put c 2;", 3);
        taken("if a 5 { } { } ", 1);
        taken("add a b c;put d 00;put e 99;", 3);
        fault("puta 1;", 2, 0);
        fault("put aa 1;", 2, 4);
        fault("add ab c;", 2, 4);
        fault("put a 1 2;", 2, 8);
        fault("pu t a 1;", 2, 0);
        fault("put a 1a;", 2, 7);
        fault("zput a 1;", 2, 0);
        fault("putz a 1;", 2, 0);
        fault("put az 1;", 2, 4);
        fault("put a 123;", 1, 6);
        for (int c : new int[] {0, 9, 10, 13, 31, 127}) {
            fault("put" + (char) c + "a 1;", 1, 3);
        }
    }

    private static void grammar() {
        says(0, "text: { stmt } stmt: put V N ; | K V V V ; | if V N [ { stmt } ] [ { stmt } ] K: add | sub | mul | div V: a .. h [ and ] stand for one { and one }");
        taken("", 0);
        taken("    ", 0);
        taken("put a 1;", 1);
        taken("add a b c;sub d e f;mul g h a;div b c d;", 4);
        taken("if a 1{}{}", 1);
        taken("if a 1{put a 1;put b 2;}{add a b c;if h 2{}{}div a a a;}put h 3;", 7);
        fault("if a 1;", 2, 6);
        fault("if a 1{}", 2, 8);
        fault("if a 1{}{};", 2, 10);
        fault("if a 1{{}}{}", 2, 7);
        fault("if a 1}{}{", 2, 6);
        fault("put a 1;;", 2, 8);
        fault("{}", 2, 0);
        fault("put a 1}", 2, 7);
        fault("rem a b c;", 2, 0);
        fault("idd a b c;", 2, 0);
        fault("of a 1{}{}", 2, 0);
        says(0, "put: TARGET, NUMBER (0 to 99). K: TARGET, two VARIABLES. if: VARIABLE, TENTHS (0 to 10), SIDES yes, no.");
        codes(told("put a 0;put b 99;mul c d e;if f 0{put g 1;}{put h 2;}if f 10{}{}"), new int[][] {
            {0, 0, 0, NONE, 0}, {0, 1, 99, NONE, 0}, {3, 2, 3, 4, 0}, {5, 5, 0, NONE, 0}, {0, 6, 1, NONE, 1}, {0, 7, 2, NONE, 2}, {5, 5, 10, NONE, 0}});
    }

    private static void faults() {
        says(0, "FAULTS, the first met as it is read (a TOKEN is read when the one before has been taken):");
        fault("put i ?", 2, 4);
        fault("put ? i", 1, 4);
        fault("if a 11 ?", 3, 5);
        fault("if a 11?", 3, 5);
        fault("if i 11{", 2, 3);
        fault("foo?", 2, 0);
        fault("?foo", 1, 0);
        fault("put a b 100", 2, 6);
        fault("put a 1 100", 1, 8);
        fault(times(24, "put a 1;") + "add i", 5, 192);
        fault(times(24, "put a 1;") + "ad i", 2, 192);
        fault(times(24, "put a 1;") + "?", 1, 192);
        fault(SIX_IFS + "if i 11", 5, 60);
    }

    private static void faultOfNoToken() {
        says(0, "1 no TOKEN, a NUMBER that is too long (its first byte).");
        GuardedCode x = new GuardedCode();
        for (int c = 0; c < 128; c++) {
            x.feed(c);
            boolean token = c >= 'a' && c <= 'z' || c >= '0' && c <= '9' || c == ';' || c == '{' || c == '}';
            due("byte " + c, x.text(), c == 32 ? 0 : -10);
            due("fault of byte " + c, x.fault(), c == 32 ? 0 : token ? 2 : 1);
        }
        fault("100", 1, 0);
        fault("put a 000;", 1, 6);
        fault("put a 099;", 1, 6);
        fault("put a 4294967297;", 1, 6);
        fault("if a 010{}{}", 1, 5);
        fault("put 100 1;", 1, 4);
        fault("put a 1;100", 1, 8);
        fault("put a " + times(314, "0"), 1, 6);
    }

    private static void faultOfPlace() {
        says(0, "2 a TOKEN that can not stand there (a NAME that begins no stmt, is no V; or the end: the length).");
        fault("a", 2, 0);
        fault("put z 1;", 2, 4);
        fault("put put 1;", 2, 4);
        fault("add a if c;", 2, 6);
        fault("if a b{}{}", 2, 5);
        fault("put", 2, 3);
        fault("put ", 2, 4);
        fault("put a", 2, 5);
        fault("put a  ", 2, 7);
        fault("put a 1", 2, 7);
        fault("add a b", 2, 7);
        fault("add a b c", 2, 9);
        fault("if a 1", 2, 6);
        fault("if a 1{", 2, 7);
        fault("if a 1{}", 2, 8);
        fault("if a 1{}{", 2, 9);
        fault("if a 1{put a 1;", 2, 15);
        fault("put a 1;}", 2, 8);
        fault("if a 1{}{}}", 2, 10);
        fault(times(317, " ") + "put", 2, 320);
        says(0, "3 a NUMBER out of its bounds.");
        fault("if a 11{}{}", 3, 5);
        fault("if a 99{}{}", 3, 5);
        fault("if a   20{}{}", 3, 7);
        taken("if a 10{}{}if a 09{}{}if a 0{}{}", 3);
        taken("put a 99;put a 11;", 2);
    }

    private static void faultOfTooMany() {
        says(0, "5 the 25th INSTRUCTION, the 7th if (its NAME).");
        taken(times(24, "put a 1;"), 24);
        fault(times(24, "put a 1;") + "put a 1;", 5, 192);
        fault(times(24, "put a 1;") + "  if a 1{}{}", 5, 194);
        fault(times(23, "put a 1;") + "if a 1{put a 1;}{}", 5, 191);
        fault(times(23, "put a 1;") + "if a 1{}{put a 1;}", 5, 193);
        taken(times(23, "put a 1;") + "if a 1{}{}", 24);
        taken(SIX_IFS + times(18, "put a 1;"), 24);
        fault(SIX_IFS + times(18, "put a 1;") + "put a 1;", 5, 204);
        fault(SIX_IFS + " if a 1{}{}", 5, 61);
        taken(DEEP, 7);
        fault(DEEP.replace("put h 1;", "if a 1{}{}"), 5, 42);
        fault(DEEP + "if", 5, DEEP.length());
    }

    private static void takenTextTellsAll() {
        says(0, "A text that is taken tells all, in place of what there was; there was no RUN; IMAGES are gone.");
        GuardedCode x = told("if a 1{put a 2;}{}put b 3;");
        x.want(0, 0);
        x.keep(0);
        x.keep(1);
        x.run(1, 2, 3, 4);
        due("shorter", tell(x, "if a 4{}{}"), 1);
        codes(x, new int[][] {{5, 0, 4, NONE, 0}});
        due("its WISH", x.wish(0, 0), 2);
        due("no RUN", x.spent(), NONE);
        due("no RUN", x.value(3), 0);
        due("no IMAGE 0", x.back(0), STATE);
        due("no IMAGE 1", x.back(1), STATE);
        due("no IMAGES", x.count(0), 0);
        x.keep(0);
        x.run(1, 2, 3, 4);
        due("empty", x.text(), 0);
        due("nothing is left", x.code(0, 0), BAD);
        due("no IF is left", x.wish(0, 0), BAD);
        due("no RUN", x.spent(), NONE);
        due("no IMAGE", x.back(0), STATE);
    }
}
