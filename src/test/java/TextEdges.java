/** Promises 1 to 7: a new object, the text. */
final class TextEdges extends Edges {
    static void all() {
        newObject();
        feed();
        end();
        text();
        fault();
        rule();
        code();
    }

    private static void newObject() {
        says(1, "No INSTRUCTIONS;");
        GuardedCode x = new GuardedCode();
        int[] rules = {0, 0, 0, 255, 0, 0};
        for (int w = 0; w < rules.length; w++) {
            due("rule(" + w + ")", x.rule(w), rules[w]);
        }
        due("code", x.code(0, 0), BAD);
        due("wish", x.wish(0, 0), BAD);
        due("live", x.live(0), BAD);
        due("set", x.set(0, 1, 0), BAD);
        due("turn", x.turn(0, 1), BAD);
        due("GUARD 0", x.guard(0, 3), 0);
        due("within", x.within(0, 0), 1);
        due("apart", x.apart(0, 0), 0);
        due("cover by GUARD 0", x.cover(0, 1), 1);
        due("cover by none", x.cover(0, 0), 0);
        due("spent", x.spent(), NONE);
        due("value", x.value(7), 0);
        due("fault", x.fault(), 0);
        due("torn", x.torn(), 0);
        due("sweep", x.sweep(), 0);
        due("merge", x.merge(), 0);
        due("runs", x.runs(1, 100, 0), 100);
        due("runs", x.runs(1, 100, 1), 0);
        due("IMAGES", x.count(0), 0);
        due("divs", x.count(1), 0);
        due("THE TAPE", x.count(2), 0);
        due("numbers", x.count(4), 0);
        due("tenths", x.count(5), 0);
        mean(x, 0, 1);
        odds(x, 0, 1, 1);
        due("an empty text", x.text(), 0);
        due("run", x.run(4, 3, 2, 1), 0);
        due("value of a run", x.value(0), 4);
        says(1, "SHEETS of nothing.");
        GuardedCode y = new GuardedCode();
        due("CELLS of SHEET 0", y.count(3), NONE);
        for (int k = 0; k < 4; k++) {
            due("lay on SHEET " + k, y.lay(k, 0, 0), -11);
            due("read of SHEET " + k, y.read(k, 0, 0, 1), 0);
            due("torn of SHEET " + k, y.torn(), 1);
        }
    }

    private static void feed() {
        says(2, "A byte (0 to 127) comes behind THE TAPE: how many it has.");
        GuardedCode x = new GuardedCode();
        due("the least", x.feed(0), 1);
        due("the greatest", x.feed(127), 2);
        due("how many", x.count(2), 2);
        x.end(0);
        Check.feedAll(x, "put a 12");
        due("behind", x.feed(';'), 9);
        due("in its order", x.text(), 1);
        due("in its order", x.code(0, 2), 12);
        due("from 1 again behind a text", x.feed(' '), 1);
        says(2, "BAD;");
        due("-1", x.feed(-1), BAD);
        due("128", x.feed(128), BAD);
        due("256 and a byte", x.feed(256 + 32), BAD);
        due("lowest", x.feed(LOWEST), BAD);
        due("highest", x.feed(HIGHEST), BAD);
        due("none came", x.count(2), 1);
        says(2, "FULL: more than 320.");
        GuardedCode y = new GuardedCode();
        Check.feedAll(y, times(319, " "));
        due("the 320th", y.feed(' '), 320);
        due("the 321st", y.feed(' '), FULL);
        due("the 321st again", y.feed('a'), FULL);
        due("BAD ahead of that", y.feed(128), BAD);
        due("none came", y.count(2), 320);
        due("room again", y.end(319), 320);
        due("the 320th again", y.feed('?'), 320);
        due("it came", y.text(), -10 - 319);
    }

    private static void end() {
        says(3, "THE TAPE keeps its first n bytes: how many it had.");
        GuardedCode x = new GuardedCode();
        due("none of none", x.end(0), 0);
        Check.feedAll(x, "put a 1;put b 2;");
        due("all", x.end(16), 16);
        due("all are left", x.count(2), 16);
        due("the first", x.end(8), 16);
        due("8 are left", x.count(2), 8);
        Check.feedAll(x, "put c 3;");
        due("what comes then is behind those", x.text(), 2);
        due("the first", x.code(0, 1), 0);
        due("the second", x.code(1, 1), 2);
        Check.feedAll(x, "?");
        due("none", x.end(0), 1);
        due("none is left", x.text(), 0);
        Check.feedAll(x, times(320, "?"));
        due("of 320", x.end(320), 320);
        due("none of 320", x.end(0), 320);
        says(3, "BAD.");
        GuardedCode y = new GuardedCode();
        due("below", y.end(-1), BAD);
        due("lowest", y.end(LOWEST), BAD);
        due("more than none", y.end(1), BAD);
        Check.feedAll(y, "put a 1;");
        due("more than it has", y.end(9), BAD);
        due("320", y.end(320), BAD);
        due("highest", y.end(HIGHEST), BAD);
        due("below", y.end(-1), BAD);
        due("all are left", y.count(2), 8);
        due("all are left", y.text(), 1);
    }

    private static void text() {
        says(4, "THE TAPE (empty then) tells all: how many INSTRUCTIONS;");
        GuardedCode x = new GuardedCode();
        due("of an empty tape", x.text(), 0);
        due("two", tell(x, "put a 1;put b 2;"), 2);
        due("empty then", x.count(2), 0);
        due("in place of those: one", tell(x, "put c 3;"), 1);
        due("one", x.rule(0), 1);
        due("24", tell(x, times(24, "put a 1;")), 24);
        due("none, by blanks", tell(x, "  "), 0);
        due("none", x.rule(0), 0);
        due("one that ends in a SIDE", tell(x, "if a 1{if b 2{}{"), -26);
        due("the next begins under GUARD 0", tell(x, "put a 1;"), 1);
        due("the next begins under GUARD 0", x.code(0, 4), 0);
        says(4, "-10 less the place of its FAULT: that which was told stays.");
        due("one", tell(x, "put c 3;"), 1);
        due("place 0", tell(x, "?"), -10);
        due("empty then, too", x.count(2), 0);
        due("place 8", tell(x, "put a 1;?"), -18);
        due("nothing of it is told", x.rule(0), 1);
        due("that which was told stays", x.code(0, 1), 2);
        GuardedCode y = told("put c 3;");
        due("place 319", tell(y, times(319, " ") + "?"), -329);
        due("that which was told stays", y.code(0, 2), 3);
        GuardedCode z = told("put c 3;");
        due("the length: 320", tell(z, times(317, " ") + "put"), -330);
        due("that which was told stays", z.code(0, 2), 3);
    }

    private static void fault() {
        says(5, "The FAULT of the latest text(); 0.");
        GuardedCode x = new GuardedCode();
        due("none yet", x.fault(), 0);
        tell(x, "?");
        due("1", x.fault(), 1);
        due("1 again", x.fault(), 1);
        x.feed('a');
        x.run(1, 1, 1, 1);
        x.keep(0);
        x.back(0);
        due("other calls leave it", x.fault(), 1);
        x.text();
        due("2", x.fault(), 2);
        tell(x, "if a 11");
        due("3", x.fault(), 3);
        tell(x, times(6, "if a 1{}{}") + "if");
        due("5", x.fault(), 5);
        x.text();
        due("0 by an empty one", x.fault(), 0);
        tell(x, "?");
        tell(x, "put a 1;");
        due("0 by one that is taken", x.fault(), 0);
    }

    private static void rule() {
        says(6, "0 INSTRUCTIONS, 1 IFS, 2 the greatest DEPTH of a GUARD, 3 OUT, 4 how many IFS are GUARDED, 5 FLAT of all that stand under GUARD 0, summed.");
        GuardedCode x = told("if a 5{if b 5{}{if c 5{div a a a;}{}}}{}div b b b;if d 5{}{}");
        x.out(9);
        x.want(0, 0);
        x.want(1, 0);
        int[] rules = {6, 4, 3, 9, 2, 12};
        for (int w = 0; w < rules.length; w++) {
            due("rule(" + w + ")", x.rule(w), rules[w]);
        }
        due("no GUARD but 0", told("put a 1;").rule(2), 0);
        due("six IFS beside one another", told(times(6, "if a 1{}{}")).rule(2), 1);
        due("six IFS are GUARDED", told(times(6, "if a 1{}{}")).rule(4), 6);
        x.out(0);
        due("OUT 0", x.rule(3), 0);
        says(6, "BAD.");
        due("6", x.rule(6), BAD);
        due("-1", x.rule(-1), BAD);
        due("lowest", x.rule(LOWEST), BAD);
        due("highest", x.rule(HIGHEST), BAD);
    }

    private static void code() {
        says(7, "Of an INSTRUCTION: 0 KIND, 1 TARGET (of an if VARIABLE), 2 NUMBER, first VARIABLE, TENTHS, 3 second VARIABLE (NONE: of put, if), 4 its GUARD, 5 FLAT, 6 which IF it is (NONE).");
        GuardedCode x = told("put h 99;if g 10{sub a h b;}{if f 0{}{div h a h;}}");
        int[][] rows = {
            {0, 7, 99, NONE, 0, 1, NONE},
            {5, 6, 10, NONE, 0, 7, 0},
            {2, 0, 7, 1, 1, 1, NONE},
            {5, 5, 0, NONE, 2, 5, 1},
            {4, 7, 0, 7, 4, 4, NONE},
        };
        codes(x, rows);
        says(7, "BAD.");
        due("no such INSTRUCTION", x.code(5, 0), BAD);
        due("no such INSTRUCTION, NONE else", x.code(5, 6), BAD);
        due("below", x.code(-1, 0), BAD);
        due("lowest", x.code(LOWEST, 0), BAD);
        due("highest", x.code(HIGHEST, 0), BAD);
        due("7 of it", x.code(0, 7), BAD);
        due("-1 of it", x.code(0, -1), BAD);
        due("lowest of it", x.code(4, LOWEST), BAD);
        due("highest of it", x.code(4, HIGHEST), BAD);
        tell(x, "put a 1;");
        due("one that is there no more", x.code(1, 0), BAD);
    }
}
