import java.lang.reflect.InvocationTargetException;
import java.lang.reflect.Method;
import java.util.Arrays;
import java.util.Comparator;
import java.util.NoSuchElementException;
import java.util.function.BooleanSupplier;
import java.util.function.IntSupplier;

/** What the tests share: what is due, how texts are put, problems of known hardness, how a class of tests is run. */
abstract class Bench {
    static final int NONE = -1;
    static final int THREW = 12345;
    static final int MIN = Integer.MIN_VALUE;
    static final int MAX = Integer.MAX_VALUE;
    static final String ALL_FOUR = "grow 2;1 2;1 -2;-1 2;-1 -2;";

    static int wrong = 0;
    static String now = "";

    // ---- what is due

    static void due(String what, long got, long want) {
        if (got != want) {
            wrong++;
            System.out.println(now + ": " + what + " answered " + got + ", due is " + want);
        }
    }

    static void due(String what, boolean got, boolean want) {
        due(what, got ? 1 : 0, want ? 1 : 0);
    }

    static void dueSame(String what, String got, String want) {
        if (!got.equals(want)) {
            wrong++;
            System.out.println(now + ": " + what + ":\n  is  " + got + "\n  was " + want);
        }
    }

    static void dueClause(Subject x, int clause, int... literals) {
        due("length of clause " + clause, clauseOf(x, clause, NONE), literals.length);
        for (int i = 0; i < literals.length; i++) {
            due("clause(" + clause + ", " + i + ")", clauseOf(x, clause, i), literals[i]);
        }
        due("behind clause " + clause, clauseOf(x, clause, literals.length), THREW);
    }

    static void dueLine(Subject x, int line, int... literals) {
        due("length of line " + line, x.line(line, NONE), literals.length);
        for (int i = 0; i < literals.length; i++) {
            due("line(" + line + ", " + i + ")", x.line(line, i), literals[i]);
        }
        due("behind line " + line, x.line(line, literals.length), -100);
    }

    static void dueCounts(Subject x, int conflicts, int decisions, int draws, int anews) {
        due("count(10)", x.count(10), conflicts);
        due("count(11)", x.count(11), decisions);
        due("count(12)", x.count(12), draws);
        due("count(13)", x.count(13), anews);
    }

    static void dueModel(Subject x, int... values) {
        for (int v = 1; v <= values.length; v++) {
            due("model(" + v + ")", x.model(v), values[v - 1]);
        }
        due("model behind", x.model(values.length + 1), NONE);
    }

    static void dueTold(Subject x, String text, int statements) {
        put(x, text);
        due("tell() of " + text, x.tell(), statements);
        due("fault() of " + text, x.fault(), 0);
        due("TAPE behind " + text, x.count(9), 0);
    }

    static void dueFault(Subject x, String text, int kind, int place) {
        put(x, text);
        due("tell() of " + text, x.tell(), NONE);
        due("fault() of " + text, x.fault(), kind + 8 * place);
        due("TAPE behind " + text, x.count(9), 0);
    }

    static void dueLog(Subject x, String text, int accepted) {
        put(x, text);
        due("refute() of " + text, x.refute(), accepted);
        due("fault() of " + text, x.fault(), 0);
        due("TAPE behind " + text, x.count(9), 0);
    }

    static void dueLogFault(Subject x, String text, int kind, int place) {
        put(x, text);
        due("refute() of " + text, x.refute(), NONE);
        due("fault() of " + text, x.fault(), kind + 8 * place);
        due("TAPE behind " + text, x.count(9), 0);
    }

    /** The call answers so, and all that can be asked is as it was ahead of it. */
    static void dueRefused(Subject x, String call, IntSupplier answer, int want) {
        String before = pictureOf(x);
        due(call, answer.getAsInt(), want);
        dueSame(call + " changes nothing", pictureOf(x), before);
    }

    static void dueFalse(Subject x, String call, BooleanSupplier answer) {
        dueRefused(x, call, () -> answer.getAsBoolean() ? 1 : 0, 0);
    }

    // ---- calls

    static void put(Subject x, String text) {
        int had = x.count(9);
        for (int i = 0; i < text.length(); i += 20) {
            int[] n = new int[5];
            for (int k = 0; k < 20; k++) {
                n[k / 4] = n[k / 4] << 8 | (i + k < text.length() ? text.charAt(i + k) : 0);
            }
            x.feed(n[0], n[1], n[2], n[3], n[4]);
        }
        x.end(had + text.length());
    }

    static Subject told(String text) {
        Subject x = new Subject();
        tellMore(x, text);
        return x;
    }

    static void tellMore(Subject x, String text) {
        put(x, text);
        due("tell() of " + text, x.tell() >= 0, true);
    }

    static int clauseOf(Subject x, int clause, int what) {
        try {
            return x.clause(clause, what);
        } catch (NoSuchElementException e) {
            return THREW;
        }
    }

    static String times(int n, String text) {
        return text.repeat(n);
    }

    /** All that can be asked, as one text; asked aside, for it is more than the calls that x has left. */
    static String pictureOf(Subject x) {
        StringBuilder b = new StringBuilder("counts");
        for (int what = 0; what <= 14; what++) {
            int n = what;
            b.append(' ').append(x.aside(y -> y.count(n)));
        }
        b.append("; fault ").append(x.aside(LearntReasons::fault));
        b.append("; closed ").append(x.aside(LearntReasons::closed));
        b.append("; core ").append(x.aside(LearntReasons::core));
        b.append(pictureOfClauses(x)).append("; assumed");
        for (int i = 0; i < 8; i++) {
            int n = i;
            b.append(' ').append(x.aside(y -> y.assumption(n)));
        }
        b.append(pictureOfVariables(x)).append(pictureOfLog(x)).append("; follows");
        for (int i = NONE; i < 30; i++) {
            int n = i;
            b.append(' ').append(x.aside(y -> y.follows(n)));
        }
        b.append("; proof ").append(x.aside(LearntReasons::proof));
        b.append("; models ").append(x.aside(LearntReasons::models));
        b.append("; fixed ").append(x.aside(y -> y.fixed(true)));
        return b.append(' ').append(x.aside(y -> y.fixed(false))).toString();
    }

    private static String pictureOfClauses(Subject x) {
        StringBuilder b = new StringBuilder();
        int clauses = x.aside(y -> y.count(1));
        for (int i = 0; i < clauses; i++) {
            int clause = i;
            int length = x.aside(y -> y.clause(clause, NONE));
            b.append("; ");
            for (int k = -3; k < length; k++) {
                int what = k;
                b.append(' ').append(x.aside(y -> y.clause(clause, what)));
            }
        }
        return b.toString();
    }

    private static String pictureOfVariables(Subject x) {
        StringBuilder b = new StringBuilder();
        for (int v = 1; v <= 30; v++) {
            int variable = v;
            b.append("; ").append(x.aside(y -> y.model(variable)));
            for (int what = 0; what <= 2; what++) {
                int n = what;
                b.append(' ').append(x.aside(y -> y.variable(variable, n)));
            }
        }
        return b.toString();
    }

    private static String pictureOfLog(Subject x) {
        StringBuilder b = new StringBuilder("; log");
        int lines = x.aside(y -> y.count(7));
        for (int i = 0; i < lines; i++) {
            int line = i;
            int length = x.aside(y -> y.line(line, NONE));
            b.append("; ");
            for (int k = 0; k < length; k++) {
                int what = k;
                b.append(' ').append(x.aside(y -> y.line(line, what)));
            }
        }
        return b.toString();
    }

    // ---- problems

    /** Something of everything: a model, a core, a GONE clause, a FAULT, a TAPE, a clause that is being told. */
    static Subject rich() {
        Subject x = told("grow 9;1 3 4;1 3 -4;-7 8;phase 5;");
        x.unit(7);
        x.solve(9);
        x.forget(1);
        x.keep(0);
        x.assume(7);
        x.assume(-8);
        x.solve(9);
        put(x, "1 3;");
        x.refute();
        put(x, " 0;");
        x.tell();
        x.add(2);
        x.add(-5);
        put(x, "abc");
        return x;
    }

    /** Five pigeons, four holes: 45 clauses that take many conflicts. */
    static Subject pigeons() {
        Subject x = told("grow 20;1 2 3 4;5 6 7 8;9 10 11 12;13 14 15 16;17 18 19 20;");
        for (int hole = 1; hole <= 4; hole++) {
            StringBuilder text = new StringBuilder();
            for (int p = hole; p <= 20; p += 4) {
                for (int q = p + 4; q <= 20; q += 4) {
                    text.append("-").append(p).append("-").append(q).append(";");
                }
            }
            dueTold(x, text.toString(), 10);
        }
        return x;
    }

    /** So many clauses in all, 45 of them told, those LEARNT of more than one LITERAL being GONE. */
    static Subject pigeonsWith(int clauses) {
        Subject x = pigeons();
        for (int had = 45; had < clauses; had += 4) {
            due("solve", x.solve(Math.min(4, clauses - had)), 2);
            x.forget(1);
        }
        due("CLAUSES", x.count(1), clauses);
        return x;
    }

    /**
     * Parities along the edges of two rings with spokes, one of them odd: 80 clauses of 30 variables
     * that cannot all hold, and that no search with a budget of 200 comes to an end with.
     */
    static Subject rings() {
        Subject x = told("grow 30;");
        for (int i = 0; i < 10; i++) {
            tellParity(x, 1 + i, 1 + (i + 1) % 10, i == 0 ? 11 + i : -11 - i);
            tellParity(x, 21 + i, 21 + (i + 3) % 10, -11 - i);
        }
        due("told ones", x.count(2), 80);
        return x;
    }

    private static void tellParity(Subject x, int p, int q, int r) {
        int[][] rows = {{p, q, r}, {p, -q, -r}, {-p, q, -r}, {-p, -q, r}};
        StringBuilder text = new StringBuilder();
        for (int[] row : rows) {
            text.append(row[0]).append(' ').append(row[1]).append(' ').append(row[2]).append(';');
        }
        dueTold(x, text.toString(), 4);
    }

    /** 80 told clauses, each of one literal. */
    static Subject fullOfTold() {
        Subject x = told("grow 9;");
        dueTold(x, times(80, "1;"), 80);
        return x;
    }

    // ---- how a class of tests is run

    /** Each method whose name begins with "promise" or "terms" is a test; a failing one is told by its name. */
    static void runAll(Class<?> tests) {
        Method[] all = tests.getDeclaredMethods();
        Arrays.sort(all, Comparator.comparing(Method::getName));
        int ran = 0;
        for (Method test : all) {
            if (test.getName().matches("(promise|terms).*")) {
                runOne(test);
                ran++;
            }
        }
        end(tests.getSimpleName() + " (" + ran + " tests)");
    }

    private static void runOne(Method test) {
        now = test.getName();
        try {
            test.setAccessible(true);
            test.invoke(null);
        } catch (InvocationTargetException e) {
            wrong++;
            System.out.println(now + " threw " + e.getCause());
        } catch (IllegalAccessException e) {
            wrong++;
            System.out.println(now + " could not be run");
        }
    }

    static void end(String name) {
        System.out.println(name + ": " + (wrong == 0 ? "all answers are as due" : wrong + " answers are not as due"));
        if (wrong != 0) {
            System.exit(1);
        }
    }
}
