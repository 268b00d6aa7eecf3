import java.math.BigInteger;
import java.util.ArrayList;
import java.util.List;
import java.util.Random;

/**
 * Random runs of calls, each answer compared with that of a model that is built another way:
 * a tree of statements, ways told as lists, sheets that are true arrays whose faults are caught.
 */
public final class OracleTest {
    private static final int BAD = -1, STATE = -2, FULL = -3, NONE = -4;
    private static final int PUT = 0, DIV = 4, IF = 5;
    /** What an object answers behind its 512th call is free. */
    private static final int MOST_CALLS = 512, DEAREST = 60;
    private static final String[] WORDS = {"put", "add", "sub", "mul", "div", "if"};

    public static void main(String[] args) {
        for (int seed = 0; seed < 15000 && Check.wrongOnes() == 0; seed++) {
            new OracleTest(seed).play();
        }
        Check.finish();
    }

    private static final class Node {
        int kind;
        int target;
        int second;
        int third;
        int wish = 2;
        List<Node> yes = new ArrayList<>();
        List<Node> no = new ArrayList<>();

        Node copy() {
            Node other = new Node();
            other.kind = kind;
            other.target = target;
            other.second = second;
            other.third = third;
            other.wish = wish;
            other.yes = copyAll(yes);
            other.no = copyAll(no);
            return other;
        }

        boolean reads(int v) {
            return kind == IF ? target == v : kind != PUT && (second == v || third == v);
        }
    }

    private static List<Node> copyAll(List<Node> from) {
        List<Node> all = new ArrayList<>();
        for (Node node : from) {
            all.add(node.copy());
        }
        return all;
    }

    private static final class Fault extends RuntimeException {
        private static final long serialVersionUID = 1;
        final int fault;
        final int place;

        Fault(int fault, int place) {
            this.fault = fault;
            this.place = place;
        }
    }

    private static final class Stop extends RuntimeException {
        private static final long serialVersionUID = 1;
        final Node by;

        Stop(Node by) {
            this.by = by;
        }
    }

    private int calls = 0;
    private final Random random;
    private final int seed;
    private final GuardedCode x = new GuardedCode();
    private List<Node> all = new ArrayList<>();
    private int asked = 255;
    private String tape = "";
    private int fault = 0;
    private int torn = 0;
    private final List<List<Node>> images = new ArrayList<>(List.of(List.of(), List.of()));
    private final int[] imageOuts = {-1, -1};
    private final Object[] sheets = new Object[4];
    private int[] latest = null;
    private int latestSpent;
    // of the run that goes on
    private int[] values;
    private int done;
    private int spending;

    private OracleTest(int seed) {
        this.seed = seed;
        this.random = new Random(seed);
    }

    // ---- the tree

    private static void order(List<Node> some, List<Node> into) {
        for (Node node : some) {
            into.add(node);
            order(node.yes, into);
            order(node.no, into);
        }
    }

    private List<Node> order() {
        List<Node> into = new ArrayList<>();
        order(all, into);
        return into;
    }

    private List<Node> ifs() {
        List<Node> into = order();
        into.removeIf(node -> node.kind != IF);
        return into;
    }

    /** The list of statements that stand under a GUARD. */
    private List<Node> under(int g) {
        if (g == 0) {
            return all;
        }
        Node node = ifs().get((g - 1) / 2);
        return g % 2 == 1 ? node.yes : node.no;
    }

    private int guardOf(Node node) {
        for (int g = 0; g <= 2 * ifs().size(); g++) {
            if (holdsSame(under(g), node)) {
                return g;
            }
        }
        throw new IllegalStateException();
    }

    private static boolean holdsSame(List<Node> some, Node node) {
        for (Node one : some) {
            if (one == node) {
                return true;
            }
        }
        return false;
    }

    private int parent(int g) {
        return guardOf(ifs().get((g - 1) / 2));
    }

    private List<Integer> chain(int g) {
        List<Integer> chain = new ArrayList<>();
        chain.add(g);
        while (g != 0) {
            g = parent(g);
            chain.add(g);
        }
        return chain;
    }

    // ---- text

    private int at;
    private int tokenStart;
    private int told;
    private int toldIfs;

    private String token() {
        while (at < tape.length() && tape.charAt(at) == ' ') {
            at++;
        }
        tokenStart = at;
        String rest = tape.substring(at);
        if (rest.isEmpty()) {
            return "";
        }
        String name = rest.replaceAll("(?s)^([a-z]*).*$", "$1");
        String number = rest.replaceAll("(?s)^([0-9]*).*$", "$1");
        String got = !name.isEmpty() ? name : !number.isEmpty() ? number : rest.substring(0, 1);
        if (number.length() > 2 || name.isEmpty() && number.isEmpty() && !";{}".contains(got)) {
            throw new Fault(1, at);
        }
        at += got.length();
        return got;
    }

    private void sign(String due) {
        if (!token().equals(due)) {
            throw new Fault(2, tokenStart);
        }
    }

    private int variable() {
        String got = token();
        if (!got.matches("[a-h]")) {
            throw new Fault(2, tokenStart);
        }
        return got.charAt(0) - 'a';
    }

    private int number(int most) {
        String got = token();
        if (!got.matches("[0-9]+")) {
            throw new Fault(2, tokenStart);
        }
        if (Integer.parseInt(got) > most) {
            throw new Fault(3, tokenStart);
        }
        return Integer.parseInt(got);
    }

    private List<Node> statements(String close) {
        List<Node> some = new ArrayList<>();
        for (String got = token(); !got.equals(close); got = token()) {
            int kind = List.of(WORDS).indexOf(got);
            if (kind < 0) {
                throw new Fault(2, tokenStart);
            }
            told++;
            toldIfs += kind == IF ? 1 : 0;
            if (told > 24 || toldIfs > 6) {
                throw new Fault(5, tokenStart);
            }
            Node node = new Node();
            node.kind = kind;
            node.target = variable();
            if (kind == IF) {
                node.second = number(10);
                sign("{");
                node.yes = statements("}");
                sign("{");
                node.no = statements("}");
            } else if (kind == PUT) {
                node.second = number(99);
                sign(";");
            } else {
                node.second = variable();
                node.third = variable();
                sign(";");
            }
            some.add(node);
        }
        return some;
    }

    private int text() {
        at = 0;
        told = 0;
        toldIfs = 0;
        try {
            List<Node> some = statements("");
            fault = 0;
            all = some;
            asked = 255;
            latest = null;
            imageOuts[0] = -1;
            imageOuts[1] = -1;
            return order().size();
        } catch (Fault found) {
            fault = found.fault;
            return -10 - found.place;
        } finally {
            tape = "";
        }
    }

    // ---- costs, as fractions over BigIntegers

    private static int flat(Node node) {
        if (node.kind == IF) {
            return 1 + flats(node.yes) + flats(node.no);
        }
        return node.kind == DIV ? 4 : 1;
    }

    private static int flats(List<Node> some) {
        int sum = 0;
        for (Node node : some) {
            sum += flat(node);
        }
        return sum;
    }

    /** A MEAN times 10 to the 9th. */
    private BigInteger mean(Node node, boolean inGuarded) {
        BigInteger whole = BigInteger.TEN.pow(9);
        if (node.kind != IF || inGuarded || guardedAlone(node)) {
            return whole.multiply(BigInteger.valueOf(flat(node)));
        }
        return jumped(node);
    }

    private BigInteger jumped(Node node) {
        BigInteger sum = BigInteger.valueOf(40).multiply(BigInteger.TEN.pow(9));
        for (Node inner : node.yes) {
            sum = sum.add(mean(inner, false).multiply(BigInteger.valueOf(node.second)));
        }
        for (Node inner : node.no) {
            sum = sum.add(mean(inner, false).multiply(BigInteger.valueOf(10 - node.second)));
        }
        return sum.divide(BigInteger.TEN);
    }

    private boolean guardedAlone(Node node) {
        if (node.wish != 2) {
            return node.wish == 1;
        }
        return BigInteger.TEN.pow(9).multiply(BigInteger.valueOf(flat(node))).compareTo(jumped(node)) <= 0;
    }

    private boolean guarded(Node node) {
        int g = guardOf(node);
        return guardedAlone(node) || g != 0 && guarded(ifs().get((g - 1) / 2));
    }

    private BigInteger[] lowest(BigInteger above, BigInteger below) {
        BigInteger common = above.gcd(below);
        return new BigInteger[] {above.divide(common), below.divide(common)};
    }

    // ---- runs

    private void doAll(List<Node> some, boolean hold, boolean inGuarded) {
        for (Node node : some) {
            if (node.kind == IF) {
                boolean guarded = inGuarded || guardedAlone(node);
                boolean up = values[node.target] > 0;
                if (hold || inGuarded) {
                    spending += guarded ? 1 : 4;
                }
                done += hold ? 1 : 0;
                if (guarded && (hold || inGuarded)) {
                    doAll(node.yes, hold && up, true);
                    doAll(node.no, hold && !up, true);
                } else if (hold) {
                    doAll(up ? node.yes : node.no, true, false);
                }
                continue;
            }
            spending += flat(node);
            if (hold) {
                doOne(node);
            }
        }
    }

    private void doOne(Node node) {
        long one = values[node.second % 8];
        long other = values[node.third];
        long got = 0;
        switch (node.kind) {
            case 0: got = node.second; break;
            case 1: got = one + other; break;
            case 2: got = one - other; break;
            case 3: got = one * other; break;
            default:
                if (other == 0) {
                    throw new Stop(node);
                }
                got = one / other;
        }
        values[node.target] = (int) got;
        done++;
    }

    /** The div that stops it, or null. */
    private Node oneRun(int a, int b, int c, int d) {
        values = new int[] {a, b, c, d, 0, 0, 0, 0};
        done = 0;
        spending = 0;
        try {
            doAll(all, true, false);
            return null;
        } catch (Stop stop) {
            return stop.by;
        }
    }

    private int run(int a, int b, int c, int d) {
        Node by = oneRun(a, b, c, d);
        latest = values;
        latestSpent = spending;
        return by == null ? done : -10 - placeOf(by);
    }

    private int placeOf(Node node) {
        List<Node> ordered = order();
        for (int i = 0; i < ordered.size(); i++) {
            if (ordered.get(i) == node) {
                return i;
            }
        }
        throw new IllegalStateException();
    }

    private int runs(int from, int n, int what) {
        if (n < 1 || n > 100 || what < 0 || what > 1) {
            return BAD;
        }
        long now = from & 0xffffffffL;
        int good = 0;
        int sum = 0;
        for (int r = 0; r < n; r++) {
            int[] four = new int[4];
            for (int v = 0; v < 4; v++) {
                now = now * 1103515245L + 12345L & 0xffffffffL;
                four[v] = (int) (now / 65536 % 32768 % 9) - 4;
            }
            good += oneRun(four[0], four[1], four[2], four[3]) == null ? 1 : 0;
            sum += spending;
        }
        return what == 0 ? good : sum;
    }

    // ---- ways

    /** Every list of what is DONE, one for each way. */
    private static List<List<Node>> ways(List<Node> some) {
        List<List<Node>> ways = new ArrayList<>();
        ways.add(new ArrayList<>());
        for (Node node : some) {
            List<List<Node>> longer = new ArrayList<>();
            List<List<Node>> inner = new ArrayList<>();
            if (node.kind == IF) {
                inner.addAll(ways(node.yes));
                inner.addAll(ways(node.no));
            } else {
                inner.add(new ArrayList<>());
            }
            for (List<Node> way : ways) {
                for (List<Node> tail : inner) {
                    List<Node> whole = new ArrayList<>(way);
                    whole.add(node);
                    whole.addAll(tail);
                    longer.add(whole);
                }
            }
            ways = longer;
        }
        return ways;
    }

    private boolean isLive(Node node, List<List<Node>> ways) {
        for (List<Node> way : ways) {
            int from = -1;
            for (int i = 0; i < way.size(); i++) {
                from = way.get(i) == node ? i : from;
            }
            if (from < 0) {
                continue;
            }
            boolean over = false;
            for (int i = from + 1; i < way.size() && !over; i++) {
                if (way.get(i).reads(node.target)) {
                    return true;
                }
                over = way.get(i).kind != IF && way.get(i).target == node.target;
            }
            if (!over && (asked >> node.target & 1) == 1) {
                return true;
            }
        }
        return false;
    }

    private boolean covered(int g, int some) {
        for (int outer : chain(g)) {
            if ((some >> outer & 1) == 1) {
                return true;
            }
        }
        return coveredInside(g, some);
    }

    private boolean coveredInside(int g, int some) {
        if ((some >> g & 1) == 1) {
            return true;
        }
        List<Node> ifs = ifs();
        // also an IF beside one of those that it is within is come to
        for (int outer : chain(g)) {
            for (int j = 0; j < ifs.size(); j++) {
                boolean beside = guardOf(ifs.get(j)) == outer && !chain(g).contains(2 * j + 1) && !chain(g).contains(2 * j + 2);
                if (beside && coveredBelow(2 * j + 1, some) && coveredBelow(2 * j + 2, some)) {
                    return true;
                }
            }
        }
        return false;
    }

    private boolean coveredBelow(int g, int some) {
        if ((some >> g & 1) == 1) {
            return true;
        }
        List<Node> ifs = ifs();
        for (int j = 0; j < ifs.size(); j++) {
            if (guardOf(ifs.get(j)) == g && coveredBelow(2 * j + 1, some) && coveredBelow(2 * j + 2, some)) {
                return true;
            }
        }
        return false;
    }

    private boolean apart(int g, int h) {
        for (int one : chain(g)) {
            for (int other : chain(h)) {
                if (one != other && one > 0 && other > 0 && (one - 1) / 2 == (other - 1) / 2) {
                    return true;
                }
            }
        }
        return false;
    }

    private int sweep() {
        int went = 0;
        while (true) {
            List<List<Node>> ways = ways(all);
            List<Node> gone = new ArrayList<>();
            for (Node node : order()) {
                if (node.kind < DIV && !isLive(node, ways)) {
                    gone.add(node);
                }
            }
            for (Node node : gone) {
                under(guardOf(node)).removeIf(one -> one == node);
            }
            went += gone.size();
            if (gone.isEmpty()) {
                return went;
            }
        }
    }

    private boolean mergeOnce() {
        for (Node node : ifs()) {
            if (node.yes.isEmpty() || node.no.isEmpty()) {
                continue;
            }
            Node one = node.yes.get(0);
            Node other = node.no.get(0);
            boolean alike = one.kind == other.kind && one.target == other.target && one.second == other.second
                && (one.kind == PUT || one.third == other.third);
            if (one.kind != IF && alike && one.target != node.target) {
                List<Node> list = under(guardOf(node));
                int place = 0;
                while (list.get(place) != node) {
                    place++;
                }
                node.yes.remove(0);
                node.no.remove(0);
                list.add(place, one);
                return true;
            }
        }
        return false;
    }

    private int merge() {
        int often = 0;
        while (mergeOnce()) {
            often++;
        }
        return often;
    }

    // ---- changes, sheets

    private int set(int i, int what, int v) {
        List<Node> ordered = order();
        if (i < 0 || i >= ordered.size() || what < 1 || what > 3 || v < 0) {
            return BAD;
        }
        Node node = ordered.get(i);
        int most = what == 1 ? 7 : what == 2 ? (node.kind == PUT ? 99 : node.kind == IF ? 10 : 7)
            : node.kind == PUT || node.kind == IF ? -1 : 7;
        if (v > most) {
            return BAD;
        }
        int was = what == 1 ? node.target : what == 2 ? node.second : node.third;
        if (what == 1) {
            node.target = v;
        } else if (what == 2) {
            node.second = v;
        } else {
            node.third = v;
        }
        return was;
    }

    private int sheet(int k, int lane, int n) {
        if (k < 0 || k > 3 || lane < 0 || lane > 2 || n > 40) {
            return BAD;
        }
        try {
            sheets[k] = lane == 0 ? new byte[n] : lane == 1 ? new short[n] : new int[n];
            return 1;
        } catch (NegativeArraySizeException found) {
            return -14;
        }
    }

    private int lay(int k, int i, int v) {
        if (k < 0 || k > 3) {
            return BAD;
        }
        try {
            if (sheets[k] instanceof byte[] row) {
                row[i] = (byte) v;
            } else if (sheets[k] instanceof short[] row) {
                row[i] = (short) v;
            } else {
                ((int[]) sheets[k])[i] = v;
            }
            return 1;
        } catch (NullPointerException found) {
            return -11;
        } catch (ArrayIndexOutOfBoundsException found) {
            return -12;
        }
    }

    private int cell(int k, int lane, int i) {
        return lane == 0 ? ((byte[]) sheets[k])[i] : lane == 1 ? ((short[]) sheets[k])[i] : ((int[]) sheets[k])[i];
    }

    private int read(int k, int lane, int f, int n) {
        if (k < 0 || k > 3 || lane < 0 || lane > 2 || n < 0 || n > 13) {
            return BAD;
        }
        List<Node> before = copyAll(all);
        int found = 0;
        int came = 0;
        try {
            for (int m = 0; m < n; m++) {
                int i = cell(k, lane, f + 3 * m);
                int what = cell(k, lane, f + 3 * m + 1);
                int v = cell(k, lane, f + 3 * m + 2);
                if (set(i, what, v) == BAD) {
                    all = before;
                    return -20 - m;
                }
                came++;
            }
        } catch (NullPointerException e) {
            found = 1;
        } catch (ArrayIndexOutOfBoundsException e) {
            found = 2;
        } catch (ClassCastException e) {
            found = 3;
        }
        torn = found;
        return came;
    }

    // ---- what is played

    private int pick(int from, int to) {
        int wild = random.nextInt(60);
        if (wild == 0) {
            return random.nextInt();
        }
        if (wild == 1) {
            return random.nextBoolean() ? Integer.MIN_VALUE : Integer.MAX_VALUE;
        }
        return from + random.nextInt(to - from + 1);
    }

    private String randomText(int depth, int length) {
        StringBuilder text = new StringBuilder();
        for (int s = 0; s < length; s++) {
            String gap = random.nextInt(6) == 0 ? " " : "";
            int variables = 2 + random.nextInt(4);
            char v = (char) ('a' + random.nextInt(variables));
            int kind = random.nextInt(depth > 0 ? 9 : 5);
            text.append(gap);
            if (kind == PUT) {
                text.append("put ").append(v).append(' ').append(random.nextInt(3)).append(gap).append(';');
            } else if (kind < 5) {
                text.append(WORDS[kind]).append(' ').append(v).append(' ').append((char) ('a' + random.nextInt(variables)))
                    .append(' ').append((char) ('a' + random.nextInt(variables))).append(gap).append(';');
            } else {
                text.append("if ").append(v).append(' ').append(random.nextInt(11)).append(gap).append('{')
                    .append(randomText(depth - 1, random.nextInt(3))).append('}').append(gap).append('{')
                    .append(randomText(depth - 1, random.nextInt(3))).append('}');
            }
        }
        return text.toString();
    }

    private void tell() {
        StringBuilder text = new StringBuilder(randomText(random.nextInt(7), 1 + random.nextInt(8)));
        if (random.nextInt(3) == 0 && text.length() > 0) {
            int place = random.nextInt(text.length());
            String signs = "put if{};0123456789abcdefghi#A\t";
            char sign = signs.charAt(random.nextInt(signs.length()));
            switch (random.nextInt(4)) {
                case 0: text.setCharAt(place, sign); break;
                case 1: text.insert(place, sign); break;
                case 2: text.deleteCharAt(place); break;
                default: text.setLength(place);
            }
        }
        // some more than THE TAPE has room for
        text.setLength(Math.min(text.length(), 330));
        if (calls + text.length() + 2 > MOST_CALLS) {
            return;
        }
        for (int i = 0; i < text.length(); i++) {
            feed(text.charAt(i));
        }
        due("text", x.text(), text());
        due("fault", x.fault(), fault);
    }

    private void feed(int c) {
        int want = c < 0 || c > 127 ? BAD : tape.length() >= 320 ? FULL : tape.length() + 1;
        if (want > 0) {
            tape += (char) c;
        }
        due("feed", x.feed(c), want);
    }

    /** Each answer is that of one call. */
    private void due(String what, long got, long want) {
        calls++;
        Check.due("seed " + seed + " " + what, got, want);
    }

    private void play() {
        tell();
        while (calls + DEAREST <= MOST_CALLS && Check.wrongOnes() == 0) {
            int what = random.nextInt(24);
            if (what < 2) {
                ask();
            } else if (what < 12) {
                askOne();
            } else if (what < 22) {
                change();
            } else if (random.nextInt(12) == 0) {
                tell();
            } else {
                askTape();
            }
        }
    }

    private void askTape() {
        int n = pick(-2, 8);
        int want = n < 0 || n > tape.length() ? BAD : tape.length();
        if (want >= 0) {
            tape = tape.substring(0, n);
        }
        due("end", x.end(n), want);
        feed(pick(-1, 128));
    }

    private void ask() {
        List<Node> ordered = order();
        List<Node> ifs = ifs();
        int depth = 0;
        int many = 0;
        int divs = 0;
        int numbers = 0;
        int tenths = 0;
        for (int g = 0; g <= 2 * ifs.size(); g++) {
            depth = Math.max(depth, chain(g).size() - 1);
        }
        BigInteger sum = BigInteger.ZERO;
        for (Node node : ordered) {
            many += node.kind == IF && guarded(node) ? 1 : 0;
            divs += node.kind == DIV ? 1 : 0;
            numbers += node.kind == PUT ? node.second : 0;
            tenths += node.kind == IF ? node.second : 0;
        }
        for (Node node : all) {
            sum = sum.add(mean(node, false));
        }
        int[] rules = {ordered.size(), ifs.size(), depth, asked, many, flats(all), BAD};
        for (int w = 0; w < rules.length; w++) {
            due("rule " + w, x.rule(w), rules[w]);
        }
        int cells = sheets[0] instanceof byte[] b ? b.length : sheets[0] instanceof short[] s ? s.length
            : sheets[0] instanceof int[] i ? i.length : NONE;
        int[] counts = {(imageOuts[0] < 0 ? 0 : 1) + (imageOuts[1] < 0 ? 0 : 1), divs, tape.length(), cells, numbers, tenths, BAD};
        for (int w = 0; w < counts.length; w++) {
            due("count " + w, x.count(w), counts[w]);
        }
        BigInteger[] fraction = lowest(sum, BigInteger.TEN.pow(9));
        due("mean 0", x.mean(0), fraction[0].longValueExact());
        due("mean 1", x.mean(1), fraction[1].longValueExact());
        due("torn", x.torn(), torn);
        due("fault", x.fault(), fault);
        due("spent", x.spent(), latest == null ? NONE : latestSpent);
        for (int v = -1; v <= 8; v++) {
            due("value " + v, x.value(v), v < 0 || v > 7 ? -1 : latest == null ? 0 : latest[v]);
        }
    }

    private void askOne() {
        switch (random.nextInt(7)) {
            case 0: askCode(pick(-1, order().size())); break;
            case 1: askGuard(pick(-1, 2 * ifs().size() + 1)); break;
            case 2: askGuards(pick(-1, 2 * ifs().size() + 1), pick(-1, 2 * ifs().size() + 1)); break;
            case 3: askCover(pick(-1, 2 * ifs().size() + 1)); break;
            case 4: askIf(pick(-1, ifs().size())); break;
            case 5: askLive(pick(-1, order().size())); break;
            default: askRuns();
        }
    }

    private void askCode(int i) {
        List<Node> ordered = order();
        boolean is = i >= 0 && i < ordered.size();
        Node node = is ? ordered.get(i) : new Node();
        boolean none = node.kind == PUT || node.kind == IF;
        int[] due = {node.kind, node.target, node.second, none ? NONE : node.third, is ? guardOf(node) : 0, flat(node), NONE, BAD};
        for (int j = 0; is && j < ifs().size(); j++) {
            due[6] = ifs().get(j) == node ? j : due[6];
        }
        for (int w = 0; w < due.length; w++) {
            due("code " + i + " " + w, x.code(i, w), is ? due[w] : BAD);
        }
    }

    private boolean isGuard(int g) {
        return g >= 0 && g <= 2 * ifs().size();
    }

    private void askGuard(int g) {
        boolean is = isGuard(g);
        int[] due = new int[5];
        BigInteger[] odds = {BigInteger.valueOf(BAD), BigInteger.valueOf(BAD)};
        if (is) {
            due = new int[] {g == 0 ? NONE : parent(g), g == 0 ? NONE : placeOf(ifs().get((g - 1) / 2)), chain(g).size() - 1, under(g).size(), BAD};
            BigInteger above = BigInteger.ONE;
            for (int outer : chain(g)) {
                if (outer > 0) {
                    int tenths = ifs().get((outer - 1) / 2).second;
                    above = above.multiply(BigInteger.valueOf(outer % 2 == 1 ? tenths : 10 - tenths));
                }
            }
            odds = lowest(above, BigInteger.TEN.pow(chain(g).size() - 1));
        }
        for (int w = 0; w < due.length; w++) {
            due("guard " + g + " " + w, x.guard(g, w), is ? due[w] : BAD);
        }
        due("odds " + g + " 0", x.odds(g, 0), odds[0].longValueExact());
        due("odds " + g + " 1", x.odds(g, 1), odds[1].longValueExact());
    }

    private void askGuards(int g, int h) {
        boolean are = isGuard(g) && isGuard(h);
        due("within " + g + " " + h, x.within(g, h), !are ? BAD : chain(g).contains(h) ? 1 : 0);
        due("apart " + g + " " + h, x.apart(g, h), !are ? BAD : apart(g, h) ? 1 : 0);
    }

    private void askCover(int g) {
        int guards = 2 * ifs().size() + 1;
        int some = random.nextInt(9) == 0 ? pick(-1, 1 << guards) : random.nextInt(1 << guards) & ~1;
        boolean are = isGuard(g) && some >= 0 && some < 1 << guards;
        due("cover " + g + " " + some, x.cover(g, some), !are ? BAD : covered(g, some) ? 1 : 0);
    }

    private void askIf(int j) {
        boolean is = j >= 0 && j < ifs().size();
        due("wish " + j, x.wish(j, 0), is ? ifs().get(j).wish : BAD);
        due("guarded " + j, x.wish(j, 1), is ? (guarded(ifs().get(j)) ? 1 : 0) : BAD);
    }

    private void askLive(int i) {
        List<Node> ordered = order();
        boolean is = i >= 0 && i < ordered.size() && ordered.get(i).kind != IF;
        due("live " + i, x.live(i), !is ? BAD : isLive(ordered.get(i), ways(all)) ? 1 : 0);
    }

    private void askRuns() {
        int from = random.nextInt();
        int n = random.nextInt(20) == 0 ? pick(-1, 101) : 1 + random.nextInt(5);
        int what = random.nextInt(20) == 0 ? pick(-1, 2) : random.nextInt(2);
        due("runs " + from + " " + n + " " + what, x.runs(from, n, what), runs(from, n, what));
    }

    private void change() {
        switch (random.nextInt(12)) {
            case 0:
            case 1: changeRun(); break;
            case 2: changeWish(); break;
            case 3: changeOut(); break;
            case 4: due("sweep", x.sweep(), sweep()); break;
            case 5: due("merge", x.merge(), merge()); break;
            case 6: changePart(); break;
            case 7: changeKind(); break;
            case 8: changeImage(); break;
            case 9: changeSheet(); break;
            default: changeByRead();
        }
    }

    private void changeRun() {
        int[] four = new int[4];
        for (int v = 0; v < 4; v++) {
            four[v] = pick(-2, 2);
        }
        due("run", x.run(four[0], four[1], four[2], four[3]), run(four[0], four[1], four[2], four[3]));
        for (int v = 0; v < 8; v++) {
            due("value " + v, x.value(v), latest[v]);
        }
        due("spent", x.spent(), latestSpent);
    }

    private void changeWish() {
        int j = pick(-1, ifs().size());
        int v = pick(-1, 3);
        int want = BAD;
        if (j >= 0 && j < ifs().size() && v >= 0 && v <= 2) {
            want = ifs().get(j).wish;
            ifs().get(j).wish = v;
        }
        due("want", x.want(j, v), want);
    }

    private void changeOut() {
        int some = pick(-1, 256);
        int want = some < 0 || some > 255 ? BAD : asked;
        asked = want == BAD ? asked : some;
        due("out", x.out(some), want);
    }

    private void changePart() {
        int i = pick(-1, order().size());
        int what = pick(0, 4);
        int v = random.nextInt(6) == 0 ? pick(-1, 100) : pick(0, 4);
        due("set " + i + " " + what + " " + v, x.set(i, what, v), set(i, what, v));
    }

    private void changeKind() {
        int i = pick(-1, order().size());
        int k = pick(0, 5);
        int want = BAD;
        if (i >= 0 && i < order().size() && k >= 1 && k <= 4) {
            Node node = order().get(i);
            if (node.kind >= 1 && node.kind <= 4) {
                want = node.kind;
                node.kind = k;
            }
        }
        due("turn " + i + " " + k, x.turn(i, k), want);
    }

    private void changeImage() {
        int k = pick(-1, 2);
        boolean is = k == 0 || k == 1;
        if (random.nextBoolean()) {
            due("keep " + k, x.keep(k), !is ? BAD : imageOuts[k] < 0 ? 0 : 1);
            if (is) {
                images.set(k, copyAll(all));
                imageOuts[k] = asked;
            }
            return;
        }
        int want = !is ? BAD : imageOuts[k] < 0 ? STATE : 0;
        if (want == 0) {
            all = copyAll(images.get(k));
            asked = imageOuts[k];
            latest = null;
            want = order().size();
        }
        due("back " + k, x.back(k), want);
    }

    private void changeSheet() {
        int k = pick(-1, 4);
        int lane = pick(-1, 3);
        int n = pick(-2, 42);
        due("sheet " + k + " " + lane + " " + n, x.sheet(k, lane, n), sheet(k, lane, n));
    }

    /** Mostly changes that may come, from a place on; else anything. */
    private void changeByRead() {
        int k = pick(0, 3);
        int f = pick(-1, 12);
        int n = pick(0, random.nextInt(6) == 0 ? 14 : 4);
        for (int m = 0; m < Math.min(Math.max(n, 0), 13); m++) {
            int[] cells = {pick(0, Math.max(0, order().size() - 1)), pick(1, 2), pick(0, 7)};
            for (int c = 0; c < 3; c++) {
                int place = f + 3 * m + c;
                due("lay", x.lay(k, place, cells[c]), lay(k, place, cells[c]));
            }
        }
        Object row = k >= 0 && k < 4 ? sheets[k] : null;
        int lane = random.nextInt(5) == 0 ? pick(-1, 3) : row instanceof byte[] ? 0 : row instanceof short[] ? 1 : 2;
        due("read " + k + " " + lane + " " + f + " " + n, x.read(k, lane, f, n), read(k, lane, f, n));
        due("torn", x.torn(), torn);
    }
}
