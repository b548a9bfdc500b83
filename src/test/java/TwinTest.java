import java.util.ArrayList;
import java.util.HashMap;
import java.util.List;
import java.util.Map;
import java.util.NoSuchElementException;
import java.util.Random;

/** Runs of calls drawn from seeds, each answered by the class and by its plain twin. */
public final class TwinTest {
    private static final int THREW = 1 << 30;
    /** A step takes at most so many calls: a text of 400 bytes, told and asked about. */
    private static final int CALLS_OF_A_STEP = 30;

    private final Random random;
    private final Subject x = new Subject();
    private final PlainTwin y = new PlainTwin();
    private final List<String> calls = new ArrayList<>();
    private final int style;
    private int wrong;
    private static final Map<String, Integer> met = new HashMap<>();

    private TwinTest(long seed) {
        random = new Random(seed);
        style = random.nextInt(5);
    }

    private int below(int n) {
        return random.nextInt(n);
    }

    private int same(String call, int got, int want) {
        calls.add(call + " -> " + got);
        if (got != want) {
            wrong++;
            System.out.println(call + " answered " + got + ", due is " + want + "; calls: " + calls);
        }
        met.merge(call.substring(0, call.indexOf('(')) + (want == THREW ? " threw" : want < 0 ? " none" : ""), 1, Integer::sum);
        return got;
    }

    private boolean same(String call, boolean got, boolean want) {
        return same(call, got ? 1 : 0, want ? 1 : 0) != 0;
    }

    private int oddInt() {
        int[] odd = {0, 1, -1, -2, -3, -4, 2, 3, 8, 9, 30, 31, -30, -31, 50, 51, 200, 201, 400, 401,
            Integer.MAX_VALUE, Integer.MIN_VALUE, Integer.MIN_VALUE + 1, random.nextInt()};
        return odd[below(odd.length)];
    }

    private int literal() {
        if (below(40) == 0) {
            return oddInt();
        }
        int v = 1 + below(Math.max(1, y.s.v + (below(30) == 0 ? 1 : 0)));
        return random.nextBoolean() ? v : -v;
    }

    // ---- texts

    private void feedText(String text) {
        for (int i = 0; i < text.length(); i += 20) {
            int[] n = new int[5];
            for (int k = 0; k < 20; k++) {
                int sign = i + k < text.length() ? text.charAt(i + k) : ' ';
                n[k / 4] = n[k / 4] << 8 | sign;
            }
            same("feed()", x.feed(n[0], n[1], n[2], n[3], n[4]), y.feed(n));
        }
        int length = Math.min(text.length(), y.tape.size());
        same("end(" + length + ")", x.end(length), y.end(length));
    }

    private String blank() {
        return below(3) > 0 ? "" : below(4) > 0 ? " " : "\n";
    }

    private String lits(int least, int most) {
        StringBuilder b = new StringBuilder();
        int n = least + below(most - least + 1);
        for (int i = 0; i < n; i++) {
            int v = 1 + below(Math.max(1, y.s.v));
            b.append(random.nextBoolean() ? "-" + blank() : " ").append(v).append(blank());
        }
        return b.toString();
    }

    private String unlikeLits(int most) {
        List<Integer> variables = new ArrayList<>();
        for (int v = 1; v <= y.s.v; v++) {
            variables.add(v);
        }
        java.util.Collections.shuffle(variables, random);
        StringBuilder b = new StringBuilder();
        for (int i = 0; i < Math.min(most, variables.size()); i++) {
            b.append(random.nextBoolean() ? "-" : " ").append(variables.get(i)).append(blank());
        }
        return b.toString();
    }

    private String statement() {
        switch (below(10)) {
            case 0: return "grow" + blank() + below(below(5) == 0 ? 120 : 4);
            case 1: return "assume" + blank() + unlikeLits(below(10));
            case 2: return "phase" + blank() + lits(below(8) == 0 ? 0 : 1, 12);
            case 3: return lits(0, 9);
            default: return unlikeLits(1 + below(below(6) == 0 ? 10 : 4));
        }
    }

    private String spoilt(String text) {
        StringBuilder b = new StringBuilder(text);
        String signs = "0123456789-;- ;azgrow\nX\t\u0000\u00e9/:`{";
        for (int i = below(3); i >= 0 && b.length() > 0; i--) {
            int place = below(b.length());
            char sign = signs.charAt(below(signs.length()));
            switch (below(3)) {
                case 0: b.setCharAt(place, sign); break;
                case 1: b.insert(place, sign); break;
                default: b.deleteCharAt(place);
            }
        }
        return b.toString();
    }

    private void tellText(boolean log) {
        StringBuilder b = new StringBuilder();
        for (int i = below(below(6) == 0 ? 60 : 6); i > 0; i--) {
            b.append(blank()).append(log ? unlikeLits(below(5)) : statement()).append(blank()).append(";");
        }
        b.append(blank());
        String text = below(3) == 0 ? spoilt(b.toString()) : b.toString();
        readText(text.length() > 400 ? text.substring(0, 400) : text, log);
    }

    private void readText(String text, boolean log) {
        feedText(text);
        if (log) {
            same("refute() of " + text, x.refute(), y.refute());
            same("closed()", x.closed(), y.closed());
        } else {
            same("tell() of " + text, x.tell(), y.tell());
        }
        same("fault()", x.fault(), y.fault());
    }

    /** The class's own log, as a text as far as it goes, some of it left out. */
    private void tellOwnLog() {
        StringBuilder b = new StringBuilder();
        for (List<Integer> line : y.s.log) {
            if (below(10) > 0) {
                for (int literal : line) {
                    b.append(literal < 0 ? "-" : " ").append(Math.abs(literal));
                }
                b.append(";");
            }
        }
        String text = b.length() > 400 ? b.substring(0, b.lastIndexOf(";", 399) + 1) : b.toString();
        readText(text, true);
    }

    // ---- whole problems

    private void tellClause(int... literals) {
        for (int literal : literals) {
            same("add(" + literal + ")", x.add(literal), y.add(literal));
        }
        same("close()", x.close(), y.close());
    }

    private void growTo(int v) {
        int n = v - y.s.v;
        same("grow(" + n + ")", x.grow(n), y.grow(n));
    }

    private void clauseText(StringBuilder b, int... literals) {
        for (int literal : literals) {
            b.append(literal < 0 ? "" : " ").append(literal);
        }
        b.append(";");
        if (b.length() > 370) {
            readText(b.toString(), false);
            b.setLength(0);
        }
    }

    private void randomProblem() {
        int v = 3 + below(16);
        growTo(v);
        StringBuilder b = new StringBuilder();
        for (int i = 0; i < Math.min(80, v * 9 / 2); i++) {
            int width = below(8) == 0 ? 2 : 3;
            List<Integer> row = new ArrayList<>();
            while (row.size() < width) {
                int p = 1 + below(v);
                if (!row.contains(p) && !row.contains(-p)) {
                    row.add(random.nextBoolean() ? p : -p);
                }
            }
            clauseText(b, row.stream().mapToInt(k -> k).toArray());
        }
        readText(b.toString(), false);
    }

    private void pigeons(int holes) {
        growTo(holes * (holes + 1));
        StringBuilder b = new StringBuilder();
        for (int p = 0; p <= holes; p++) {
            int[] row = new int[holes];
            for (int h = 0; h < holes; h++) {
                row[h] = p * holes + h + 1;
            }
            clauseText(b, row);
        }
        for (int h = 0; h < holes; h++) {
            for (int p = 0; p <= holes; p++) {
                for (int q = 0; q < p; q++) {
                    clauseText(b, -(p * holes + h + 1), -(q * holes + h + 1));
                }
            }
        }
        readText(b.toString(), false);
    }

    private void parities() {
        int v = 12 + below(13);
        growTo(v);
        StringBuilder b = new StringBuilder();
        for (int i = 0; i < 20; i++) {
            int p = 1 + below(v);
            int q = 1 + (p + below(v - 1)) % v;
            int r = 1 + below(v);
            while (r == p || r == q) {
                r = 1 + below(v);
            }
            int sign = random.nextBoolean() ? 1 : -1;
            clauseText(b, p, q, sign * r);
            clauseText(b, p, -q, -sign * r);
            clauseText(b, -p, q, -sign * r);
            clauseText(b, -p, -q, sign * r);
        }
        readText(b.toString(), false);
    }

    // ---- single calls

    private int clauseOr(boolean twin, int i, int what) {
        try {
            return twin ? y.clause(i, what) : x.clause(i, what);
        } catch (NoSuchElementException e) {
            return THREW;
        }
    }

    private void tellOne() {
        int n = below(4) == 0 ? oddInt() : 0;
        switch (below(12)) {
            case 0: n = n != 0 ? n : 1 + below(3); same("grow(" + n + ")", x.grow(n), y.grow(n)); break;
            case 1: case 2: n = literal(); same("add(" + n + ")", x.add(n), y.add(n)); break;
            case 3: same("close()", x.close(), y.close()); break;
            case 4: case 5: n = literal(); same("assume(" + n + ")", x.assume(n), y.assume(n)); break;
            case 6: same("free()", x.free(), y.free()); break;
            case 7: n = literal(); same("phase(" + n + ")", x.phase(n), y.phase(n)); break;
            case 8: n = n != 0 ? n : below(6); same("unit(" + n + ")", x.unit(n), y.unit(n)); break;
            case 9: n = n != 0 ? n : 1 + below(6); same("forget(" + n + ")", x.forget(n), y.forget(n)); break;
            case 10: n = n != 0 ? n : below(2); same("keep(" + n + ")", x.keep(n), y.keep(n)); break;
            default: n = n != 0 ? n : below(2); same("back(" + n + ")", x.back(n), y.back(n));
        }
    }

    private void askOne() {
        int n = below(10) == 0 ? oddInt() : below(Math.max(1, y.s.clauses.size()));
        int what = below(10) == 0 ? oddInt() : below(8) - 3;
        int v = below(10) == 0 ? oddInt() : 1 + below(30);
        switch (below(10)) {
            case 0: same("clause(" + n + ", " + what + ")", clauseOr(false, n, what), clauseOr(true, n, what)); break;
            case 1: same("assumption(" + what + ")", x.assumption(what), y.assumption(what)); break;
            case 2: same("model(" + v + ")", x.model(v), y.model(v)); break;
            case 3: same("variable(" + v + ", " + what + ")", x.variable(v, what), y.variable(v, what)); break;
            case 4: same("follows(" + what + ")", x.follows(what), y.follows(what)); break;
            case 5: n = below(8) == 0 ? n : below(Math.max(1, y.s.log.size()));
                same("line(" + n + ", " + what + ")", x.line(n, what), y.line(n, what)); break;
            case 6: same("proof()", x.proof(), y.proof()); break;
            case 7: same("models()", x.models(), y.models()); break;
            case 8: same("fixed(true)", x.fixed(true), y.fixed(true)); break;
            default: same("fixed(false)", x.fixed(false), y.fixed(false));
        }
    }

    private void solveOne() {
        int budget = below(20) == 0 ? oddInt() : below(3) == 0 ? 1 + below(200) : 1 + below(12);
        same("solve(" + budget + ")", x.solve(budget), y.solve(budget));
        same("core()", x.core(), y.core());
        met.merge("ended " + y.s.ended, 1, Integer::sum);
    }

    /** Asked aside, for it is more than the calls that are left. */
    private void sameAside(String call, Subject.Call question, int want) {
        int got;
        try {
            got = x.aside(question);
        } catch (NoSuchElementException e) {
            got = THREW;
        }
        same(call, got, want);
    }

    private void askAll() {
        for (int what = -1; what <= 15; what++) {
            int n = what;
            sameAside("count(" + n + ")", o -> o.count(n), y.count(n));
        }
        sameAside("fault()", LearntReasons::fault, y.fault());
        sameAside("closed()", LearntReasons::closed, y.closed());
        askVariables();
        for (int i = -1; i <= y.s.clauses.size(); i++) {
            int clause = i;
            int length = i >= 0 && i < y.s.clauses.size() ? y.s.clauses.get(i).literals.size() : 0;
            for (int k = -4; k <= length; k++) {
                int what = k;
                sameAside("clause(" + i + ", " + k + ")", o -> o.clause(clause, what), clauseOr(true, i, k));
            }
        }
        for (int i = -1; i <= y.s.log.size(); i++) {
            int line = i;
            int length = i >= 0 && i < y.s.log.size() ? y.s.log.get(i).size() : 0;
            for (int k = -2; k <= length; k++) {
                int what = k;
                sameAside("line(" + i + ", " + k + ")", o -> o.line(line, what), y.line(i, k));
            }
        }
        for (int i = -2; i <= 30; i++) {
            int n = i;
            sameAside("follows(" + i + ")", o -> o.follows(n), y.follows(i));
            sameAside("assumption(" + i + ")", o -> o.assumption(n), y.assumption(i));
        }
    }

    private void askVariables() {
        for (int i = 0; i <= y.s.v + 1; i++) {
            int v = i;
            sameAside("model(" + v + ")", o -> o.model(v), y.model(v));
            for (int k = -1; k <= 3; k++) {
                int what = k;
                sameAside("variable(" + v + ", " + k + ")", o -> o.variable(v, what), y.variable(v, k));
            }
        }
    }

    private int run() {
        switch (style) {
            case 0: randomProblem(); break;
            case 1: pigeons(3 + below(2)); break;
            case 2: parities(); break;
            case 3: growTo(1 + below(12)); break;
            default:
        }
        int steps = style < 3 ? 30 : 200;
        for (int i = 0; i < steps && wrong == 0 && x.callsLeft() > CALLS_OF_A_STEP; i++) {
            int kind = below(20);
            if (style < 3 && below(3) == 0) {
                solveOne();
            } else if (kind < 8) {
                tellOne();
            } else if (kind < 13) {
                askOne();
            } else if (kind < 17) {
                solveOne();
            } else if (kind == 17 || style < 3 && kind == 18) {
                tellOwnLog();
            } else {
                tellText(kind == 18);
            }
        }
        askAll();
        return wrong;
    }

    /** Forgets what it learns again and again, until there are 400 clauses. */
    private int runFull(boolean parity) {
        if (parity) {
            parities();
        } else {
            pigeons(4);
        }
        for (int i = 0; i < 100 && wrong == 0 && !y.s.refuted && y.s.ended != 3
                && x.callsLeft() > 2 * CALLS_OF_A_STEP; i++) {
            int unit = below(4);
            same("unit(" + unit + ")", x.unit(unit), y.unit(unit));
            int budget = 5 + below(6);
            same("solve(" + budget + ")", x.solve(budget), y.solve(budget));
            met.merge("ended " + y.s.ended, 1, Integer::sum);
            int n = below(2) + 1;
            same("forget(" + n + ")", x.forget(n), y.forget(n));
            int literal = literal();
            same("phase(" + literal + ")", x.phase(literal), y.phase(literal));
        }
        same("proof()", x.proof(), y.proof());
        solveOne();
        tellClause(1);
        readText(below(2) == 0 ? "grow 1; 1;" : " -1;", false);
        askAll();
        return wrong;
    }

    public static void main(String[] args) {
        int seeds = args.length > 0 ? Integer.parseInt(args[0]) : 400;
        int bad = 0;
        for (int seed = 0; seed < seeds && bad == 0; seed++) {
            bad += new TwinTest(seed).run();
            if (seed % 20 == 0) {
                bad += new TwinTest(seed).runFull(seed % 40 == 0);
            }
        }
        System.out.println(bad == 0 ? "TwinTest: all answers are as due" : "TwinTest: " + bad + " answers are not as due");
        if (args.length > 0) {
            System.out.println(new java.util.TreeMap<>(met));
        }
        if (bad != 0) {
            System.exit(1);
        }
    }
}
