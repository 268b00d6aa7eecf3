import java.util.Arrays;

/**
 * Small programs of ifs within ifs, whose branches are turned to guarded instructions.
 * What each call promises stands in the document, under its number.
 */
public final class GuardedCode {
    public static final int BAD = -1, STATE = -2, FULL = -3, NONE = -4;

    private static final int PUT = 0, ADD = 1, SUB = 2, MUL = 3, DIV = 4, IF = 5;
    private static final int MOST_INSTRUCTIONS = 24, MOST_IFS = 6, MOST_GUARDS = 2 * MOST_IFS + 1;
    private static final int VARIABLES = 8, ALL_VARIABLES = 255;
    private static final int MOST_NUMBER = 99, MOST_TENTHS = 10;
    private static final int WISH_GUARD = 1, WISH_BY_COST = 2;
    private static final int TAPE_BYTES = 320;
    private static final int IMAGES = 2;
    private static final int MOST_RUNS = 100;
    private static final int SHEETS = 4, MOST_CELLS = 40, BYTE_LANE = 0, SHORT_LANE = 1, INT_LANE = 2;
    private static final int MOST_CHANGES = 13, CELLS_OF_CHANGE = 3;
    private static final int FAULT_NULL = 1, FAULT_INDEX = 2, FAULT_CAST = 3, FAULT_SIZE = 4;
    private static final int FAULT_ANSWER = -10, REFUSED_ANSWER = -20;

    private final Tape tape = new Tape();
    private final Program program = new Program();
    private final Program[] images = new Program[IMAGES];
    private final boolean[] kept = new boolean[IMAGES];
    private final Costs costs = new Costs();
    private final Machine latest = new Machine();
    private final Machine trial = new Machine();
    private final Sheet[] sheets = new Sheet[SHEETS];
    private boolean ran;
    private int tornFault;

    public GuardedCode() {
        for (int k = 0; k < IMAGES; k++) {
            images[k] = new Program();
        }
        for (int k = 0; k < SHEETS; k++) {
            sheets[k] = new Sheet();
        }
    }

    // ---- the text

    public int feed(int c) {
        if (c < 0 || c > 127) {
            return BAD;
        }
        if (tape.length >= TAPE_BYTES) {
            return FULL;
        }
        tape.bytes[tape.length] = (byte) c;
        tape.length++;
        return tape.length;
    }

    public int end(int n) {
        int had = tape.length;
        if (n < 0 || n > had) {
            return BAD;
        }
        tape.length = n;
        return had;
    }

    public int text() {
        boolean taken = tape.takeAll();
        tape.length = 0;
        if (!taken) {
            return FAULT_ANSWER - tape.faultPlace;
        }
        program.becomeLike(tape.draft);
        ran = false;
        for (int k = 0; k < IMAGES; k++) {
            kept[k] = false;
        }
        return program.size;
    }

    public int fault() {
        return tape.foundFault;
    }

    public int rule(int what) {
        switch (what) {
            case 0: return program.size;
            case 1: return program.ifs;
            case 2: return program.greatestDepth();
            case 3: return program.asked;
            case 4: return measured().guardedIfs(program);
            case 5: return measured().sideFlats[0];
            default: return BAD;
        }
    }

    public int code(int i, int what) {
        if (!program.hasInstruction(i)) {
            return BAD;
        }
        switch (what) {
            case 0: return program.kinds[i];
            case 1: return program.targets[i];
            case 2: return program.seconds[i];
            case 3: return program.isCompute(i) ? program.thirds[i] : NONE;
            case 4: return program.guards[i];
            case 5: return measured().flats[i];
            case 6: return program.ifOf(i);
            default: return BAD;
        }
    }

    // ---- guards

    public int guard(int g, int what) {
        if (!program.hasGuard(g)) {
            return BAD;
        }
        switch (what) {
            case 0: return program.parentOf(g);
            case 1: return program.makerOf(g);
            case 2: return program.depthOf(g);
            case 3: return program.howManyUnder(g);
            default: return BAD;
        }
    }

    public int within(int g, int h) {
        if (!program.hasGuard(g) || !program.hasGuard(h)) {
            return BAD;
        }
        return oneIf(program.isWithin(g, h));
    }

    public int apart(int g, int h) {
        if (!program.hasGuard(g) || !program.hasGuard(h)) {
            return BAD;
        }
        return oneIf(FreeIfs.neverBoth(program, g, h));
    }

    public int cover(int g, int some) {
        if (!program.hasGuard(g) || some < 0 || some >= 1 << program.guardCount()) {
            return BAD;
        }
        return oneIf(FreeIfs.isCovered(program, g, some));
    }

    // ---- runs

    public int run(int a, int b, int c, int d) {
        latest.begin(a, b, c, d);
        latest.doAll(program, measured());
        ran = true;
        return latest.stoppedBy == NONE ? latest.done : FAULT_ANSWER - latest.stoppedBy;
    }

    public int value(int v) {
        if (v < 0 || v >= VARIABLES) {
            return BAD;
        }
        return ran ? latest.values[v] : 0;
    }

    public int spent() {
        return ran ? latest.spending : NONE;
    }

    public int runs(int seed, int n, int what) {
        if (n < 1 || n > MOST_RUNS || what < 0 || what > 1) {
            return BAD;
        }
        Costs now = measured();
        int next = seed;
        int unstopped = 0;
        int spending = 0;
        for (int r = 0; r < n; r++) {
            next = trial.beginBySeed(next);
            trial.doAll(program, now);
            unstopped += oneIf(trial.stoppedBy == NONE);
            spending += trial.spending;
        }
        return what == 0 ? unstopped : spending;
    }

    // ---- what it costs

    public int wish(int j, int what) {
        if (!program.hasIf(j) || what < 0 || what > 1) {
            return BAD;
        }
        return what == 0 ? program.wishes[j] : oneIf(measured().guarded[j]);
    }

    public int want(int j, int v) {
        if (!program.hasIf(j) || v < 0 || v > WISH_BY_COST) {
            return BAD;
        }
        int was = program.wishes[j];
        program.wishes[j] = v;
        return was;
    }

    public long mean(int what) {
        if (what < 0 || what > 1) {
            return BAD;
        }
        return partOfFraction(measured().sideMeans[0], Costs.WHOLE, what);
    }

    public long odds(int g, int what) {
        if (!program.hasGuard(g) || what < 0 || what > 1) {
            return BAD;
        }
        long above = 1;
        long below = 1;
        int inner = g;
        for (int step = 0; step < MOST_IFS && inner > 0; step++) {
            above *= program.tenthsOf(inner);
            below *= MOST_TENTHS;
            inner = program.parentOf(inner);
        }
        return partOfFraction(above, below, what);
    }

    // ---- what is read yet

    public int live(int i) {
        if (!program.hasInstruction(i) || program.kinds[i] == IF) {
            return BAD;
        }
        return FreeIfs.liveOnes(program) >> i & 1;
    }

    public int out(int some) {
        if (some < 0 || some > ALL_VARIABLES) {
            return BAD;
        }
        int was = program.asked;
        program.asked = some;
        return was;
    }

    public int sweep() {
        int before = program.size;
        int went = 1;
        for (int round = 0; round <= MOST_INSTRUCTIONS && went > 0; round++) {
            went = program.dropUnread(FreeIfs.liveOnes(program));
        }
        return before - program.size;
    }

    public int merge() {
        int merged = 0;
        int j = program.firstToMerge();
        for (int round = 0; round < MOST_INSTRUCTIONS && j != NONE; round++) {
            program.mergeAhead(j);
            merged++;
            j = program.firstToMerge();
        }
        return merged;
    }

    // ---- what is changed

    public int set(int i, int what, int v) {
        if (!program.mayChange(i, what, v)) {
            return BAD;
        }
        return program.change(i, what, v);
    }

    public int turn(int i, int k) {
        if (!program.hasInstruction(i) || !program.isCompute(i) || k < ADD || k > DIV) {
            return BAD;
        }
        int was = program.kinds[i];
        program.kinds[i] = k;
        return was;
    }

    // ---- images, sheets

    public int keep(int k) {
        if (k < 0 || k >= IMAGES) {
            return BAD;
        }
        int was = oneIf(kept[k]);
        images[k].becomeLike(program);
        kept[k] = true;
        return was;
    }

    public int back(int k) {
        if (k < 0 || k >= IMAGES) {
            return BAD;
        }
        if (!kept[k]) {
            return STATE;
        }
        program.becomeLike(images[k]);
        ran = false;
        return program.size;
    }

    public int sheet(int k, int lane, int n) {
        if (k < 0 || k >= SHEETS || lane < BYTE_LANE || lane > INT_LANE || n > MOST_CELLS) {
            return BAD;
        }
        if (n < 0) {
            return FAULT_ANSWER - FAULT_SIZE;
        }
        sheets[k].renew(lane, n);
        return 1;
    }

    public int lay(int k, int i, int v) {
        if (k < 0 || k >= SHEETS) {
            return BAD;
        }
        Sheet onto = sheets[k];
        if (onto.length == NONE) {
            return FAULT_ANSWER - FAULT_NULL;
        }
        if (i < 0 || i >= onto.length) {
            return FAULT_ANSWER - FAULT_INDEX;
        }
        onto.write(i, v);
        return 1;
    }

    public int read(int k, int lane, int f, int n) {
        if (k < 0 || k >= SHEETS || lane < BYTE_LANE || lane > INT_LANE || n < 0 || n > MOST_CHANGES) {
            return BAD;
        }
        Sheet from = sheets[k];
        int found = 0;
        int whole = 0;
        for (int m = 0; m < n && found == 0; m++) {
            // f is as wild as the caller likes, but behind the first change it is a CELL's place
            int at = f + CELLS_OF_CHANGE * m;
            found = from.faultOfChange(lane, at);
            if (found == 0) {
                if (!program.mayChange(from.cells[at], from.cells[at + 1], from.cells[at + 2])) {
                    return REFUSED_ANSWER - m;
                }
                whole++;
            }
        }
        // no change lets another be refused, so that all were looked at ahead and come now
        for (int m = 0; m < whole; m++) {
            int at = f + CELLS_OF_CHANGE * m;
            program.change(from.cells[at], from.cells[at + 1], from.cells[at + 2]);
        }
        tornFault = found;
        return whole;
    }

    public int torn() {
        return tornFault;
    }

    public int count(int what) {
        switch (what) {
            case 0: return oneIf(kept[0]) + oneIf(kept[1]);
            case 1: return program.howManyOf(DIV);
            case 2: return tape.length;
            case 3: return sheets[0].length;
            case 4: return program.secondsOf(PUT);
            case 5: return program.secondsOf(IF);
            default: return BAD;
        }
    }

    private Costs measured() {
        costs.measure(program);
        return costs;
    }

    private static int oneIf(boolean so) {
        return so ? 1 : 0;
    }

    /** The upper (0) or lower part (1) of a fraction in lowest terms; its parts are not below 0. */
    private static long partOfFraction(long above, long below, int what) {
        long common = greatestCommon(above, below);
        if (common <= 0) {
            return what;
        }
        return what == 0 ? above / common : below / common;
    }

    private static long greatestCommon(long one, long other) {
        long big = one;
        long small = other;
        // no pair of longs needs a hundred steps
        for (int step = 0; step < 100 && small != 0; step++) {
            long rest = big % small;
            big = small;
            small = rest;
        }
        return big;
    }

    /** A row of CELLS with its lane; its length is NONE while it is nothing. */
    private static final class Sheet {
        final int[] cells = new int[MOST_CELLS];
        int lane;
        int length = NONE;

        void renew(int newLane, int newLength) {
            Arrays.fill(cells, 0);
            lane = newLane;
            length = newLength;
        }

        void write(int i, int v) {
            if (lane == BYTE_LANE) {
                cells[i] = (byte) v;
            } else if (lane == SHORT_LANE) {
                cells[i] = (short) v;
            } else {
                cells[i] = v;
            }
        }

        /** What keeps three CELLS, from one on, from being read as of a lane; 0: nothing does. */
        int faultOfChange(int asLane, int at) {
            if (length == NONE) {
                return FAULT_NULL;
            }
            if (asLane != lane) {
                return FAULT_CAST;
            }
            return at < 0 || at > length - CELLS_OF_CHANGE ? FAULT_INDEX : 0;
        }
    }

    /** The INSTRUCTIONS with their GUARDS, the IFS with their WISHES, and OUT. */
    private static final class Program {
        final int[] kinds = new int[MOST_INSTRUCTIONS];
        final int[] targets = new int[MOST_INSTRUCTIONS];
        final int[] seconds = new int[MOST_INSTRUCTIONS];
        final int[] thirds = new int[MOST_INSTRUCTIONS];
        final int[] guards = new int[MOST_INSTRUCTIONS];
        final int[] ifPlaces = new int[MOST_IFS];
        final int[] wishes = new int[MOST_IFS];
        int size;
        int ifs;
        int asked = ALL_VARIABLES;

        void clear() {
            size = 0;
            ifs = 0;
            asked = ALL_VARIABLES;
        }

        void becomeLike(Program other) {
            System.arraycopy(other.kinds, 0, kinds, 0, MOST_INSTRUCTIONS);
            System.arraycopy(other.targets, 0, targets, 0, MOST_INSTRUCTIONS);
            System.arraycopy(other.seconds, 0, seconds, 0, MOST_INSTRUCTIONS);
            System.arraycopy(other.thirds, 0, thirds, 0, MOST_INSTRUCTIONS);
            System.arraycopy(other.guards, 0, guards, 0, MOST_INSTRUCTIONS);
            System.arraycopy(other.ifPlaces, 0, ifPlaces, 0, MOST_IFS);
            System.arraycopy(other.wishes, 0, wishes, 0, MOST_IFS);
            size = other.size;
            ifs = other.ifs;
            asked = other.asked;
        }

        boolean hasRoomFor(int kind) {
            return size < MOST_INSTRUCTIONS && (kind != IF || ifs < MOST_IFS);
        }

        /** Adds an INSTRUCTION behind the others; there is room for it. */
        void append(int kind, int target, int second, int third, int guard) {
            kinds[size] = kind;
            targets[size] = target;
            seconds[size] = second;
            thirds[size] = third;
            guards[size] = guard;
            if (kind == IF) {
                ifPlaces[ifs] = size;
                wishes[ifs] = WISH_BY_COST;
                ifs++;
            }
            size++;
        }

        boolean hasInstruction(int i) {
            return i >= 0 && i < size;
        }

        boolean hasIf(int j) {
            return j >= 0 && j < ifs;
        }

        boolean hasGuard(int g) {
            return g >= 0 && g < guardCount();
        }

        int guardCount() {
            return 2 * ifs + 1;
        }

        /** Whether it is one of add, sub, mul, div: those with a third part, that may be turned. */
        boolean isCompute(int i) {
            return kinds[i] >= ADD && kinds[i] <= DIV;
        }

        int ifOf(int i) {
            for (int j = 0; j < ifs; j++) {
                if (ifPlaces[j] == i) {
                    return j;
                }
            }
            return NONE;
        }

        int makerOf(int g) {
            return g == 0 ? NONE : ifPlaces[(g - 1) / 2];
        }

        int parentOf(int g) {
            return g == 0 ? NONE : guards[makerOf(g)];
        }

        /** How many of ten times a GUARD (not 0) holds when its if is DONE. */
        int tenthsOf(int g) {
            int yes = seconds[makerOf(g)];
            return isYes(g) ? yes : MOST_TENTHS - yes;
        }

        static boolean isYes(int g) {
            return g % 2 == 1;
        }

        int depthOf(int g) {
            int depth = 0;
            int outer = g;
            while (depth < MOST_IFS && outer > 0) {
                outer = parentOf(outer);
                depth++;
            }
            return depth;
        }

        int greatestDepth() {
            int greatest = 0;
            for (int g = 0; g < guardCount(); g++) {
                greatest = Math.max(greatest, depthOf(g));
            }
            return greatest;
        }

        boolean isWithin(int g, int h) {
            int outer = g;
            for (int step = 0; step < MOST_IFS && outer > 0 && outer != h; step++) {
                outer = parentOf(outer);
            }
            return outer == h;
        }

        int howManyUnder(int g) {
            int under = 0;
            for (int i = 0; i < size; i++) {
                under += oneIf(guards[i] == g);
            }
            return under;
        }

        int howManyOf(int kind) {
            int many = 0;
            for (int i = 0; i < size; i++) {
                many += oneIf(kinds[i] == kind);
            }
            return many;
        }

        int secondsOf(int kind) {
            int sum = 0;
            for (int i = 0; i < size; i++) {
                sum += kinds[i] == kind ? seconds[i] : 0;
            }
            return sum;
        }

        /** The VARIABLES that it reads, as bits. */
        int readsOf(int i) {
            if (kinds[i] == PUT) {
                return 0;
            }
            return kinds[i] == IF ? 1 << targets[i] : 1 << seconds[i] | 1 << thirds[i];
        }

        /** The greatest that a part of an INSTRUCTION may be; NONE: there is no such part. */
        int mostOfPart(int i, int what) {
            if (what == 1) {
                return VARIABLES - 1;
            }
            if (what == 2 && kinds[i] == PUT) {
                return MOST_NUMBER;
            }
            if (what == 2 && kinds[i] == IF) {
                return MOST_TENTHS;
            }
            return (what == 2 || what == 3) && isCompute(i) ? VARIABLES - 1 : NONE;
        }

        boolean mayChange(int i, int what, int v) {
            return hasInstruction(i) && v >= 0 && v <= mostOfPart(i, what);
        }

        /** A change that may be made is made: what the part was. */
        int change(int i, int what, int v) {
            int[] parts = what == 1 ? targets : what == 2 ? seconds : thirds;
            int was = parts[i];
            parts[i] = v;
            return was;
        }

        /** Each put, add, sub, mul goes that is none of the live ones (bits): how many went. */
        int dropUnread(int liveOnes) {
            int left = 0;
            for (int i = 0; i < size; i++) {
                if (kinds[i] == DIV || kinds[i] == IF || (liveOnes >> i & 1) == 1) {
                    move(i, left);
                    left++;
                }
            }
            int went = size - left;
            size = left;
            findIfs();
            return went;
        }

        void move(int from, int onto) {
            kinds[onto] = kinds[from];
            targets[onto] = targets[from];
            seconds[onto] = seconds[from];
            thirds[onto] = thirds[from];
            guards[onto] = guards[from];
        }

        /** The IFS keep their order whatever goes or moves, so that only their places are sought. */
        void findIfs() {
            int j = 0;
            for (int i = 0; i < size && j < ifs; i++) {
                if (kinds[i] == IF) {
                    ifPlaces[j] = i;
                    j++;
                }
            }
        }

        int firstUnder(int g) {
            for (int i = 0; i < size; i++) {
                if (guards[i] == g) {
                    return i;
                }
            }
            return NONE;
        }

        int firstToMerge() {
            for (int j = 0; j < ifs; j++) {
                if (mayMerge(j)) {
                    return j;
                }
            }
            return NONE;
        }

        boolean mayMerge(int j) {
            int yes = firstUnder(2 * j + 1);
            int no = firstUnder(2 * j + 2);
            return yes != NONE && no != NONE && kinds[yes] != IF
                && areAlike(yes, no) && targets[yes] != targets[ifPlaces[j]];
        }

        boolean areAlike(int one, int other) {
            return kinds[one] == kinds[other] && targets[one] == targets[other]
                && seconds[one] == seconds[other] && thirds[one] == thirds[other];
        }

        /** What both SIDES of an IF begin with (it may be merged) comes right ahead of it. */
        void mergeAhead(int j) {
            int place = ifPlaces[j];
            int yes = firstUnder(2 * j + 1);
            int no = firstUnder(2 * j + 2);
            int kind = kinds[yes];
            int target = targets[yes];
            int second = seconds[yes];
            int third = thirds[yes];
            for (int i = no + 1; i < size; i++) {
                move(i, i - 1);
            }
            size--;
            for (int i = yes; i > place; i--) {
                move(i - 1, i);
            }
            // the if was moved behind this place and its GUARD still stands here
            kinds[place] = kind;
            targets[place] = target;
            seconds[place] = second;
            thirds[place] = third;
            findIfs();
        }
    }

    /** What may be by FREE IFS; a way has bit j, if IF j goes yes. */
    private static final class FreeIfs {
        static int howManyWays(Program program) {
            return 1 << program.ifs;
        }

        /** The GUARDS that hold by a way, as bits. */
        static int holding(Program program, int way) {
            int holding = 1;
            for (int j = 0; j < program.ifs; j++) {
                int yes = 2 * j + 1;
                if ((holding >> program.parentOf(yes) & 1) == 1) {
                    holding |= 1 << ((way >> j & 1) == 1 ? yes : yes + 1);
                }
            }
            return holding;
        }

        static boolean neverBoth(Program program, int g, int h) {
            int both = 1 << g | 1 << h;
            for (int way = 0; way < howManyWays(program); way++) {
                if ((holding(program, way) & both) == both) {
                    return false;
                }
            }
            return true;
        }

        static boolean isCovered(Program program, int g, int some) {
            for (int way = 0; way < howManyWays(program); way++) {
                int holding = holding(program, way);
                if ((holding >> g & 1) == 1 && (holding & some) == 0) {
                    return false;
                }
            }
            return true;
        }

        /** The INSTRUCTIONS that are LIVE, as bits. */
        static int liveOnes(Program program) {
            int found = 0;
            for (int way = 0; way < howManyWays(program); way++) {
                found |= liveByWay(program, holding(program, way));
            }
            return found;
        }

        /** From the end on, which VARIABLES are read yet tells which TARGETS are not in vain. */
        static int liveByWay(Program program, int holding) {
            int found = 0;
            int readYet = program.asked;
            for (int i = program.size - 1; i >= 0; i--) {
                if ((holding >> program.guards[i] & 1) == 0) {
                    continue;
                }
                if (program.kinds[i] != IF) {
                    int target = 1 << program.targets[i];
                    if ((readYet & target) != 0) {
                        found |= 1 << i;
                    }
                    readYet &= ~target;
                }
                readYet |= program.readsOf(i);
            }
            return found;
        }
    }

    /** FLAT, MEAN of all, and which IFS are GUARDED. */
    private static final class Costs {
        /** MEANS are held in parts of a whole: six IFS within one another divide it by ten six times. */
        static final long WHOLE = 1000000;
        static final int DIV_COST = 4, OTHER_COST = 1, JUMP_COST = 4, GUARD_COST = 1;

        final int[] flats = new int[MOST_INSTRUCTIONS];
        final int[] sideFlats = new int[MOST_GUARDS];
        final long[] sideMeans = new long[MOST_GUARDS];
        final boolean[] guarded = new boolean[MOST_IFS];

        void measure(Program program) {
            Arrays.fill(sideFlats, 0);
            Arrays.fill(sideMeans, 0L);
            int j = program.ifs;
            // backwards, so that all in the SIDES of an if has been summed when the if is met
            for (int i = program.size - 1; i >= 0; i--) {
                int side = program.guards[i];
                if (program.kinds[i] == IF) {
                    j--;
                    sideMeans[side] += measureIf(program, i, j);
                } else {
                    flats[i] = program.kinds[i] == DIV ? DIV_COST : OTHER_COST;
                    sideMeans[side] += flats[i] * WHOLE;
                }
                sideFlats[side] += flats[i];
            }
            guardInner(program);
        }

        /** FLAT of an if, and whether it would be GUARDED by its WISH alone: its MEAN then. */
        long measureIf(Program program, int i, int j) {
            int yes = 2 * j + 1;
            int tenths = program.seconds[i];
            flats[i] = GUARD_COST + sideFlats[yes] + sideFlats[yes + 1];
            long flat = flats[i] * WHOLE;
            long jumped = JUMP_COST * WHOLE
                + (sideMeans[yes] * tenths + sideMeans[yes + 1] * (MOST_TENTHS - tenths)) / MOST_TENTHS;
            int wished = program.wishes[j];
            guarded[j] = wished == WISH_GUARD || (wished == WISH_BY_COST && flat <= jumped);
            return guarded[j] ? flat : jumped;
        }

        /** What is in a SIDE of a GUARDED IF is GUARDED, whatever its WISH. */
        void guardInner(Program program) {
            for (int j = 0; j < program.ifs; j++) {
                int parent = program.parentOf(2 * j + 1);
                if (parent > 0 && guarded[(parent - 1) / 2]) {
                    guarded[j] = true;
                }
            }
        }

        int guardedIfs(Program program) {
            int many = 0;
            for (int j = 0; j < program.ifs; j++) {
                many += oneIf(guarded[j]);
            }
            return many;
        }
    }

    /** A RUN: its VARIABLES, what was DONE and SPENT, and the div that stopped it (NONE). */
    private static final class Machine {
        final int[] values = new int[VARIABLES];
        /** The GUARDS that hold, as bits. */
        int holding;
        /** The GUARDS under which all is spent, DONE or not, as bits. */
        int spendingAll;
        int done;
        int spending;
        int stoppedBy = NONE;

        void begin(int a, int b, int c, int d) {
            Arrays.fill(values, 0);
            values[0] = a;
            values[1] = b;
            values[2] = c;
            values[3] = d;
        }

        /** The seed behind the four numbers. */
        int beginBySeed(int seed) {
            int next = seed;
            Arrays.fill(values, 0);
            for (int v = 0; v < 4; v++) {
                next = next * 1103515245 + 12345;
                values[v] = (next >> 16 & 32767) % 9 - 4;
            }
            return next;
        }

        void doAll(Program program, Costs costs) {
            done = 0;
            spending = 0;
            stoppedBy = NONE;
            holding = 1;
            spendingAll = 0;
            int j = 0;
            for (int i = 0; i < program.size && stoppedBy == NONE; i++) {
                int side = program.guards[i];
                boolean isDone = (holding >> side & 1) == 1;
                boolean comeTo = isDone || (spendingAll >> side & 1) == 1;
                if (program.kinds[i] == IF) {
                    goOverIf(j, costs.guarded[j], comeTo, isDone, values[program.targets[i]] > 0);
                    j++;
                } else {
                    spending += comeTo ? costs.flats[i] : 0;
                    if (isDone) {
                        doOne(program, i);
                    }
                }
            }
        }

        void goOverIf(int j, boolean guarded, boolean comeTo, boolean isDone, boolean goesYes) {
            int yes = 2 * j + 1;
            if (comeTo) {
                spending += guarded ? Costs.GUARD_COST : Costs.JUMP_COST;
            }
            if (comeTo && guarded) {
                spendingAll |= 3 << yes;
            }
            if (isDone) {
                holding |= 1 << (goesYes ? yes : yes + 1);
                done++;
            }
        }

        void doOne(Program program, int i) {
            int kind = program.kinds[i];
            if (kind == PUT) {
                values[program.targets[i]] = program.seconds[i];
                done++;
                return;
            }
            int one = values[program.seconds[i]];
            int other = values[program.thirds[i]];
            if (kind == DIV && other == 0) {
                stoppedBy = i;
                return;
            }
            values[program.targets[i]] = computed(kind, one, other);
            done++;
        }

        static int computed(int kind, int one, int other) {
            switch (kind) {
                case ADD: return one + other;
                case SUB: return one - other;
                case MUL: return one * other;
                default: return other == 0 ? 0 : one / other;
            }
        }
    }

    /** THE TAPE, which is read into a draft, up to its end or its first FAULT. */
    private static final class Tape {
        static final int NO_TOKEN = 1, MISPLACED = 2, OUT_OF_BOUNDS = 3, TOO_MANY = 5;
        /** Kinds of TOKENS; each of ; { } is its own kind. */
        static final int END_TOKEN = 0, NAME_TOKEN = 1, NUMBER_TOKEN = 2;
        static final int MOST_FIGURES = 2;

        final Program draft = new Program();
        final byte[] bytes = new byte[TAPE_BYTES];
        /** GUARDS of the SIDES that are not closed yet, the innermost last. */
        final int[] openSides = new int[MOST_IFS];
        int length;
        int open;
        int token;
        int start;
        int next;
        int foundFault;
        int faultPlace;

        boolean takeAll() {
            open = 0;
            next = 0;
            foundFault = 0;
            draft.clear();
            // each turn but the last takes a byte or more
            for (int step = 0; step <= TAPE_BYTES; step++) {
                if (!readToken()) {
                    return false;
                }
                if (token == END_TOKEN && open == 0) {
                    return true;
                }
                boolean taken = token == NAME_TOKEN ? takeStatement() : closeSide();
                if (!taken) {
                    return false;
                }
            }
            return refuse(MISPLACED);
        }

        boolean closeSide() {
            if (token != '}' || open == 0) {
                return refuse(MISPLACED);
            }
            int side = openSides[open - 1];
            if (Program.isYes(side)) {
                openSides[open - 1] = side + 1;
                return takeSign('{');
            }
            open--;
            return true;
        }

        boolean takeStatement() {
            int kind = kindOfName();
            if (kind == NONE) {
                return refuse(MISPLACED);
            }
            if (!draft.hasRoomFor(kind)) {
                return refuse(TOO_MANY);
            }
            int target = takeVariable();
            int second = target == NONE ? NONE : takeSecond(kind);
            if (second == NONE) {
                return false;
            }
            int third = kind == PUT || kind == IF ? 0 : takeVariable();
            if (third == NONE || !takeSign(kind == IF ? '{' : ';')) {
                return false;
            }
            draft.append(kind, target, second, third, open == 0 ? 0 : openSides[open - 1]);
            if (kind == IF) {
                openSides[open] = 2 * draft.ifs - 1;
                open++;
            }
            return true;
        }

        int takeSecond(int kind) {
            if (kind == PUT) {
                return takeNumber(MOST_NUMBER);
            }
            return kind == IF ? takeNumber(MOST_TENTHS) : takeVariable();
        }

        int kindOfName() {
            if (nameIs("put")) {
                return PUT;
            }
            if (nameIs("add")) {
                return ADD;
            }
            if (nameIs("sub")) {
                return SUB;
            }
            if (nameIs("mul")) {
                return MUL;
            }
            if (nameIs("div")) {
                return DIV;
            }
            return nameIs("if") ? IF : NONE;
        }

        boolean nameIs(String word) {
            if (next - start != word.length()) {
                return false;
            }
            for (int at = 0; at < word.length(); at++) {
                if (bytes[start + at] != word.charAt(at)) {
                    return false;
                }
            }
            return true;
        }

        int takeVariable() {
            if (!readToken()) {
                return NONE;
            }
            if (token != NAME_TOKEN || next - start != 1 || bytes[start] - 'a' >= VARIABLES) {
                refuse(MISPLACED);
                return NONE;
            }
            return bytes[start] - 'a';
        }

        int takeNumber(int most) {
            if (!readToken()) {
                return NONE;
            }
            if (token != NUMBER_TOKEN) {
                refuse(MISPLACED);
                return NONE;
            }
            int number = 0;
            for (int at = start; at < next; at++) {
                number = 10 * number + bytes[at] - '0';
            }
            if (number > most) {
                refuse(OUT_OF_BOUNDS);
                return NONE;
            }
            return number;
        }

        boolean takeSign(int sign) {
            return readToken() && (token == sign || refuse(MISPLACED));
        }

        /** The next TOKEN, as long as may be, from start to next; false: there is a FAULT. */
        boolean readToken() {
            next = endOfSpan(next, ' ', ' ');
            start = next;
            if (start >= length) {
                token = END_TOKEN;
                return true;
            }
            int sign = bytes[start];
            if (sign >= 'a' && sign <= 'z') {
                token = NAME_TOKEN;
                next = endOfSpan(start, 'a', 'z');
                return true;
            }
            if (sign >= '0' && sign <= '9') {
                token = NUMBER_TOKEN;
                next = endOfSpan(start, '0', '9');
                return next - start <= MOST_FIGURES || refuse(NO_TOKEN);
            }
            token = sign;
            next = start + 1;
            return sign == ';' || sign == '{' || sign == '}' || refuse(NO_TOKEN);
        }

        /** Where the bytes from a place on are no more from lowest to highest. */
        int endOfSpan(int from, int lowest, int highest) {
            int place = from;
            while (place < length && bytes[place] >= lowest && bytes[place] <= highest) {
                place++;
            }
            return place;
        }

        /** The TOKEN that was read last is where the FAULT is. */
        boolean refuse(int fault) {
            foundFault = fault;
            faultPlace = start;
            return false;
        }
    }
}
