/** Promises 8 to 11: guards. */
final class GuardEdges extends Edges {
    /** IF 0 has 1 in yes and 2 in no, 3 is in no of 2; 4 stands by itself, 5 in yes of 4. */
    private static final String FOREST = "if a 1{if b 2{}{}}{if c 3{}{if d 4{}{}}}if e 5{if f 6{}{}}{}";
    private static final int[] WRONG = {-1, 13, 14, LOWEST, HIGHEST};

    static void all() {
        guard();
        within();
        apart();
        cover();
        coverBad();
    }

    private static void guard() {
        says(8, "Of a GUARD: 0 its parent (NONE: of 0), 1 the INSTRUCTION that makes it (NONE: of 0), 2 DEPTH, 3 how many INSTRUCTIONS stand under it (not within).");
        GuardedCode x = told("put a 1;if b 1{put a 2;if c 2{put a 3;put a 4;}{}put a 5;}{if d 3{}{put a 6;}}");
        int[][] rows = {{NONE, NONE, 0, 2}, {0, 1, 1, 3}, {0, 1, 1, 1}, {1, 3, 2, 2}, {1, 3, 2, 0}, {2, 7, 2, 0}, {2, 7, 2, 1}};
        for (int g = 0; g < rows.length; g++) {
            for (int what = 0; what < 4; what++) {
                due("guard(" + g + ", " + what + ")", x.guard(g, what), rows[g][what]);
            }
        }
        due("of a text of nothing", new GuardedCode().guard(0, 0), NONE);
        due("of a text of nothing", new GuardedCode().guard(0, 1), NONE);
        due("24 under 0", told(times(24, "put a 1;")).guard(0, 3), 24);
        says(8, "BAD.");
        due("beyond the last", x.guard(7, 0), BAD);
        due("below", x.guard(-1, 0), BAD);
        due("lowest", x.guard(LOWEST, 0), BAD);
        due("highest", x.guard(HIGHEST, 3), BAD);
        due("4 of it", x.guard(0, 4), BAD);
        due("-1 of it", x.guard(6, -1), BAD);
        due("of a text of nothing", new GuardedCode().guard(1, 0), BAD);
    }

    private static void within() {
        says(9, "Whether GUARD g is within GUARD h (1, 0).");
        GuardedCode x = told(FOREST);
        int[] parents = {NONE, 0, 0, 1, 1, 2, 2, 6, 6, 0, 0, 9, 9};
        for (int g = 0; g < 13; g++) {
            for (int h = 0; h < 13; h++) {
                due("within(" + g + ", " + h + ")", x.within(g, h), isWithin(parents, g, h) ? 1 : 0);
            }
        }
        says(9, "BAD.");
        for (int wrong : WRONG) {
            due("g " + wrong, x.within(wrong, 0), BAD);
            due("h " + wrong, x.within(0, wrong), BAD);
            due("both " + wrong, x.within(wrong, wrong), BAD);
        }
        due("of a text of nothing", new GuardedCode().within(0, 1), BAD);
    }

    private static boolean isWithin(int[] parents, int g, int h) {
        return g == h || g > 0 && isWithin(parents, parents[g], h);
    }

    private static void apart() {
        says(10, "Whether two GUARDS never both hold, by FREE IFS (1, 0).");
        GuardedCode x = told(FOREST);
        // all that is in yes of IF 0, in no of it, in its no's no; in each side of the others
        int[][] sides = {{1, 3, 4}, {2, 5, 6, 7, 8}, {3}, {4}, {5}, {6, 7, 8}, {7}, {8}, {9, 11, 12}, {10}, {11}, {12}};
        boolean[][] never = new boolean[13][13];
        for (int side = 0; side < sides.length; side += 2) {
            for (int g : sides[side]) {
                for (int h : sides[side + 1]) {
                    never[g][h] = true;
                    never[h][g] = true;
                }
            }
        }
        for (int g = 0; g < 13; g++) {
            for (int h = 0; h < 13; h++) {
                due("apart(" + g + ", " + h + ")", x.apart(g, h), never[g][h] ? 1 : 0);
            }
        }
        due("one VARIABLE", told("if a 1{}{}if a 1{}{}").apart(1, 4), 0);
        due("never by TENTHS", told("if a 0{}{}").apart(0, 1), 0);
        says(10, "BAD.");
        for (int wrong : WRONG) {
            due("g " + wrong, x.apart(wrong, 0), BAD);
            due("h " + wrong, x.apart(0, wrong), BAD);
            due("both " + wrong, x.apart(wrong, wrong), BAD);
        }
        due("of a text of nothing", new GuardedCode().apart(0, 1), BAD);
    }

    private static int bits(int... guards) {
        int some = 0;
        for (int g : guards) {
            some |= 1 << g;
        }
        return some;
    }

    private static void cover() {
        says(11, "Whether, by FREE IFS, one of GUARDS some (bits) holds whenever GUARD g does (1, 0).");
        GuardedCode x = told(FOREST);
        for (int g = 0; g < 13; g++) {
            due("none " + g, x.cover(g, 0), 0);
            due("GUARD 0 " + g, x.cover(g, 1), 1);
            due("itself " + g, x.cover(g, bits(g)), 1);
            due("all " + g, x.cover(g, 8191), 1);
            due("all but 0 " + g, x.cover(g, 8190), 1);
        }
        due("both sides", x.cover(0, bits(1, 2)), 1);
        due("yes alone", x.cover(0, bits(1)), 0);
        due("no alone", x.cover(0, bits(2)), 0);
        due("sides of two IFS", x.cover(0, bits(1, 9)), 0);
        due("sides of two IFS", x.cover(0, bits(2, 10)), 0);
        due("all that is within yes of an IF", x.cover(1, bits(3, 4)), 1);
        due("all within one another", x.cover(0, bits(3, 4, 5, 7, 8)), 1);
        due("but 3", x.cover(0, bits(4, 5, 7, 8)), 0);
        due("but 4", x.cover(0, bits(3, 5, 7, 8)), 0);
        due("but 5", x.cover(0, bits(3, 4, 7, 8)), 0);
        due("but 7", x.cover(0, bits(3, 4, 5, 8)), 0);
        due("but 8", x.cover(0, bits(3, 4, 5, 7)), 0);
        due("the other yes and what is in no", x.cover(0, bits(10, 11, 12)), 1);
        due("whatever the one beside does", x.cover(7, bits(9, 10)), 1);
        due("what is within another side alone", x.cover(7, bits(11, 12)), 0);
        due("a parent", x.cover(8, bits(6)), 1);
        due("the parent of that", x.cover(8, bits(2)), 1);
        due("never the other side", x.cover(8, bits(1, 3, 4, 5, 7)), 0);
        due("what is within it, not all", x.cover(6, bits(7)), 0);
        due("of a text of nothing", new GuardedCode().cover(0, 1), 1);
        due("of a text of nothing", new GuardedCode().cover(0, 0), 0);
    }

    private static void coverBad() {
        says(11, "BAD: also bits of GUARDS that there are not.");
        GuardedCode x = told(FOREST);
        due("the last GUARD", x.cover(12, bits(12)), 1);
        due("a bit beyond", x.cover(12, bits(13)), BAD);
        due("a bit beyond with others", x.cover(0, bits(0, 13)), BAD);
        due("bit 30", x.cover(0, bits(0, 30)), BAD);
        due("bit 31", x.cover(0, LOWEST), BAD);
        due("bit 31 with others", x.cover(0, LOWEST | 1), BAD);
        due("all bits", x.cover(0, -1), BAD);
        for (int wrong : WRONG) {
            due("g " + wrong, x.cover(wrong, 1), BAD);
        }
        due("of a text of nothing", new GuardedCode().cover(0, 2), BAD);
        due("of a text of nothing", new GuardedCode().cover(1, 1), BAD);
        due("of one IF", told("if a 1{}{}").cover(0, 7), 1);
        due("of one IF", told("if a 1{}{}").cover(0, 8), BAD);
    }
}
