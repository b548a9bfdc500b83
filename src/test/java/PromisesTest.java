/** One method for each promise of the document, its answers worked out by hand. */
public final class PromisesTest extends Bench {

    // ---- the promises

    private static void promise1() {
        Subject x = new Subject();
        int[] counts = {0, 0, 0, 0, 0, 0, 0, 0, 0, 0, 0, 0, 0, 0, -1};
        for (int i = 0; i < counts.length; i++) {
            due("count(" + i + ")", x.count(i), counts[i]);
        }
        due("core()", x.core(), -1);
        due("closed()", x.closed(), -1);
        due("fault()", x.fault(), 0);
        due("proof()", x.proof(), -1);
        due("NONE", LearntReasons.NONE, -1);
    }

    private static void promise2() {
        Subject x = new Subject();
        // "grow 3;" and blanks: the highest byte of each number comes first
        due("feed", x.feed(0x67726F77, 0x20333B20, 0x20202020, 0x20202020, 0x0A0A0A0A), 20);
        due("tell()", x.tell(), 1);
        due("V", x.count(0), 3);
        for (int i = 1; i <= 20; i++) {
            due("feed " + i, x.feed(0, -1, 0, 0, 0), 20 * i);
        }
        due("feed 21", x.feed(0, 0, 0, 0, 0), -1);
        due("count(9)", x.count(9), 400);
        due("end(381)", x.end(381), true);
        due("feed at 381", x.feed(0, 0, 0, 0, 0), -1);
        due("count(9)", x.count(9), 381);
        due("end(380)", x.end(380), true);
        due("feed at 380", x.feed(0, 0, 0, 0, 0), 400);
    }

    private static void promise3() {
        Subject x = new Subject();
        due("end(0)", x.end(0), true);
        due("end(1)", x.end(1), false);
        due("end(-1)", x.end(-1), false);
        x.feed(0x67726F77, 0x20333B20, 0, 0, 0);
        due("end(21)", x.end(21), false);
        due("end(MIN)", x.end(Integer.MIN_VALUE), false);
        due("end(MAX)", x.end(Integer.MAX_VALUE), false);
        due("count(9)", x.count(9), 20);
        due("end(20)", x.end(20), true);
        due("end(7)", x.end(7), true);
        due("count(9)", x.count(9), 7);
        due("end(8)", x.end(8), false);
        due("tell()", x.tell(), 1);
    }

    private static void promise4() {
        Subject x = new Subject();
        put(x, "grow3;1-2;- 3 2\n1;assume-1 3;phase 2 2-3;grow 01;4;");
        due("tell()", x.tell(), 7);
        due("V", x.count(0), 4);
        dueClause(x, 0, 1, -2);
        dueClause(x, 1, -3, 2, 1);
        dueClause(x, 2, 4);
        due("assumption(0)", x.assumption(0), -1);
        due("assumption(1)", x.assumption(1), 3);
        due("assumption(2)", x.assumption(2), 0);
        due("phase of 2", x.variable(2, 0), 1);
        due("TAPE", x.count(9), 0);
        due("tell() of nothing", x.tell(), 0);
        put(x, "  \n ");
        due("tell() of blanks", x.tell(), 0);
        dueFault(x, "grow 2;5;assume 2;phase -2;phase 5 1 -1 1;8;", 2, 42);
        due("V stays", x.count(0), 4);
        due("CLAUSES stay", x.count(1), 3);
        due("told ones stay", x.count(2), 3);
        due("ASSUMPTIONS stay", x.assumption(0), -1);
        due("PHASES stay", x.variable(2, 0), 1);
        due("PHASE of 1 stays", x.variable(1, 0), 0);
        put(x, "assume;");
        due("tell()", x.tell(), 1);
        due("count(4)", x.count(4), 0);
        x.add(1);
        put(x, "2;");
        due("tell()", x.tell(), 1);
        due("the clause being told stays", x.count(5), 1);
    }

    private static void promise5() {
        Subject x = told("grow 12;");
        dueFault(x, ";", 1, 0);
        dueFault(x, "1", 1, 1);
        dueFault(x, "1  ", 1, 3);
        dueFault(x, "1;-", 1, 3);
        dueFault(x, "- -1;", 1, 2);
        dueFault(x, "1 assume 2;", 1, 2);
        dueFault(x, "phase;", 1, 5);
        dueFault(x, "phase", 1, 5);
        dueFault(x, "grow;", 1, 4);
        dueFault(x, "grow -1;", 1, 5);
        dueFault(x, "grow 1 1;", 1, 7);
        dueFault(x, "grows 1;", 1, 0);
        dueFault(x, "Grow 1;", 1, 0);
        dueFault(x, "1 \t2;", 1, 2);
        dueFault(x, "1 \u00e9;", 1, 2);
        dueFault(x, "1 123;", 1, 2);
        dueFault(x, "grow 001;", 1, 5);
        dueFault(x, "0;", 2, 0);
        dueFault(x, "13;", 2, 0);
        dueFault(x, "1 -13;", 2, 3);
        dueFault(x, "1 2 -1;", 2, 5);
        dueFault(x, "assume 1 -1;", 2, 10);
        dueFault(x, "phase 13;", 2, 6);
        dueFault(x, "grow 0;", 2, 5);
        dueFault(x, "grow 19;", 2, 5);
        dueFault(x, "1 2 3 4 5 6 7 8 9;", 3, 16);
        dueFault(x, "1 2 3 4 5 6 7 8 -9;", 3, 16);
        dueFault(x, "1 2 3 4 5 6 7 8 8;", 2, 16);
        dueFault(x, "1 2 3 4 5 6 7 8 -8;", 3, 16);
        dueFault(x, "1 2 3 4 5 6 7 8 999;", 1, 16);
        dueFault(x, "1 2 3 4 5 6 7 8 x;", 1, 16);
        dueFault(x, "assume 1 2 3 4 5 6 7 8 9;", 3, 23);
        dueFault(x, "1; 0; $", 2, 3);
        dueLogFault(x, "grow 1;", 1, 0);
        put(x, "phase 1 2 3 4 5 6 7 8 9 1 -1;");
        due("tell()", x.tell(), 1);
        due("fault() behind a good text", x.fault(), 0);
        dueFault(x, "0;", 2, 0);
        x.refute();
        due("fault() behind a good log", x.fault(), 0);
        Subject full = new Subject();
        full.grow(2);
        for (int i = 0; i < 80; i++) {
            full.add(1);
            due("close()", full.close(), i);
        }
        dueFault(full, "phase 1; 1;", 3, 9);
        dueFault(full, "-1;", 3, 0);
        dueFault(full, "-5;", 3, 0);
        dueFault(full, "5;", 2, 0);
        dueFault(full, "999;", 1, 0);
    }

    private static void promise6() {
        Subject x = new Subject();
        int[] none = {0, -1, 31, Integer.MAX_VALUE, Integer.MIN_VALUE};
        for (int n : none) {
            due("grow(" + n + ")", x.grow(n), -1);
        }
        due("grow(1)", x.grow(1), 1);
        due("grow(30)", x.grow(30), -1);
        due("grow(29)", x.grow(29), 30);
        due("grow(1)", x.grow(1), -1);
        due("V", x.count(0), 30);
        due("grow(30)", new Subject().grow(30), 30);
    }

    private static void promise7() {
        Subject x = new Subject();
        due("add(1) of none", x.add(1), -1);
        x.grow(10);
        int[] none = {0, 11, -11, Integer.MAX_VALUE, Integer.MIN_VALUE};
        for (int n : none) {
            due("add(" + n + ")", x.add(n), -1);
        }
        for (int i = 1; i <= 8; i++) {
            due("add", x.add(i % 2 == 0 ? i : -i), i);
            due("add again", x.add(i), -1);
            due("add its negation", x.add(-i), -1);
        }
        due("add a ninth", x.add(9), -1);
        due("count(5)", x.count(5), 8);
        x.close();
        dueClause(x, 0, -1, 2, -3, 4, -5, 6, -7, 8);
    }

    private static void promise8() {
        Subject x = new Subject();
        x.grow(2);
        due("close() of nothing", x.close(), -1);
        for (int i = 0; i < 80; i++) {
            x.add(-2);
            due("close()", x.close(), i);
            due("none is being told", x.count(5), 0);
        }
        x.add(1);
        due("an 81st", x.close(), -1);
        due("it is as it was", x.count(5), 1);
        due("count(2)", x.count(2), 80);
        due("count(1)", x.count(1), 80);
    }

    private static void promise9() {
        Subject x = new Subject();
        due("assume(1) of none", x.assume(1), -1);
        x.grow(9);
        int[] none = {0, 10, -10, Integer.MAX_VALUE, Integer.MIN_VALUE};
        for (int n : none) {
            due("assume(" + n + ")", x.assume(n), -1);
        }
        for (int i = 1; i <= 8; i++) {
            due("assume", x.assume(-i), i);
            due("assume again", x.assume(i), -1);
        }
        due("a ninth", x.assume(9), -1);
        due("count(4)", x.count(4), 8);
    }

    private static void promise10() {
        Subject x = told("grow 3;assume 1 -2;");
        due("free()", x.free(), 2);
        due("free() again", x.free(), 0);
        due("count(4)", x.count(4), 0);
        due("assume(2)", x.assume(2), 1);
    }

    private static void promise11() {
        Subject x = told("grow 2;");
        due("phase(-1)", x.phase(-1), false);
        due("phase(1)", x.phase(1), true);
        due("phase(1) again", x.phase(1), false);
        due("of it", x.variable(1, 0), 1);
        due("of another", x.variable(2, 0), 0);
        int[] none = {0, 3, -3, Integer.MAX_VALUE, Integer.MIN_VALUE};
        for (int n : none) {
            due("phase(" + n + ")", x.phase(n), false);
        }
        x.solve(1);
        dueModel(x, 1, 0);
        due("phase(-1)", x.phase(-1), true);
        x.solve(1);
        dueModel(x, 0, 0);
    }

    private static void promise12() {
        Subject x = new Subject();
        due("unit(0)", x.unit(0), false);
        due("unit(50)", x.unit(50), true);
        due("unit(50)", x.unit(50), false);
        due("unit(51)", x.unit(51), false);
        due("unit(-1)", x.unit(-1), false);
        due("count(6)", x.count(6), 50);
        due("unit(0)", x.unit(0), true);
        due("count(6)", x.count(6), 0);
    }

    private static void promise13() {
        Subject x = told("grow 4;1 3 4;1 3 -4;2 3 4;");
        due("solve", x.solve(9), 1);
        dueClause(x, 3, 3, 1);
        int[] none = {0, -1, 31, Integer.MIN_VALUE};
        for (int n : none) {
            due("forget(" + n + ")", x.forget(n), -1);
        }
        due("forget(30)", x.forget(30), 0);
        due("forget(2)", x.forget(2), 0);
        due("of 3", x.variable(3, 2), 4);
        due("forget(1)", x.forget(1), 1);
        due("forget(1) again", x.forget(1), 0);
        due("told ones stay", clauseOf(x, 2, -3), 0);
        due("GONE", clauseOf(x, 3, -3), 1);
        due("still LEARNT", clauseOf(x, 3, -2), 1);
        dueClause(x, 3, 3, 1);
        due("CLAUSES", x.count(1), 4);
        due("not GONE", x.count(3), 0);
        due("of 3", x.variable(3, 2), 3);
        due("lines", x.count(7), 1);
        due("line(0, 0)", x.line(0, 0), 3);
        due("proof()", x.proof(), -1);
        x.assume(-1);
        x.assume(-3);
        due("a GONE one draws nothing", x.solve(1), 2);
    }

    private static void promise14and15() {
        Subject x = told(ALL_FOUR);
        int[] none = {-1, 2, Integer.MAX_VALUE, Integer.MIN_VALUE};
        for (int n : none) {
            due("keep(" + n + ")", x.keep(n), false);
            due("back(" + n + ")", x.back(n), false);
        }
        due("back(0)", x.back(0), false);
        due("back(1)", x.back(1), false);
        x.add(-2);
        x.unit(7);
        x.assume(-1);
        due("keep(0)", x.keep(0), true);
        x.add(1);
        x.free();
        due("solve(1)", x.solve(1), 2);
        x.assume(2);
        due("keep(1)", x.keep(1), true);
        x.free();
        due("solve(1)", x.solve(1), 0);
        put(x, "1;;");
        due("refute()", x.refute(), 2);
        due("closed()", x.closed(), 1);
        put(x, "0;");
        x.refute();
        put(x, "grow 1;");
        due("back(1)", x.back(1), true);
        due("the TAPE stays", x.count(9), 7);
        due("FAULT stays", x.fault(), 2);
        due("closed() as kept", x.closed(), -1);
        due("REFUTED as kept", x.count(8), 0);
        due("lines as kept", x.count(7), 1);
        due("CLAUSES as kept", x.count(1), 5);
        due("assumption as kept", x.assumption(0), 2);
        due("end as kept", x.count(14), 2);
        due("PHASE as kept", x.variable(1, 0), 1);
        due("SCORE as kept", x.variable(1, 1), 14);
        due("core as kept", x.core(), -1);
        dueCounts(x, 1, 1, 1, 0);
        due("back(0)", x.back(0), true);
        due("CLAUSES as kept", x.count(1), 4);
        due("being told", x.count(5), 1);
        due("UNIT", x.count(6), 7);
        due("end", x.count(14), -1);
        due("PHASE", x.variable(1, 0), 0);
        due("SCORE", x.variable(1, 1), 0);
        dueCounts(x, 0, 0, 0, 0);
        x.grow(5);
        due("back(0) again", x.back(0), true);
        due("V", x.count(0), 2);
        due("back(1) is still there", x.back(1), true);
        due("CLAUSES", x.count(1), 5);
        Subject y = told("grow 2;1;");
        y.solve(1);
        y.keep(0);
        y.keep(1);
        put(y, "grow 1;-2;2 3;phase 2;");
        y.tell();
        y.solve(1);
        dueModel(y, 1, 0, 1);
        y.back(1);
        dueModel(y, 1, 0);
        Subject z = told("grow 4;1 3 4;1 3 -4;-2 1;assume 2 -1;");
        z.unit(1);
        due("solve", z.solve(1), 0);
        z.keep(0);
        put(z, "assume;phase -1 -2;");
        z.tell();
        due("solve", z.solve(1), 2);
        due("ANEW", z.count(13), 1);
        put(z, "assume 2 3 -1;");
        z.tell();
        due("solve", z.solve(1), 0);
        due("core()", z.core(), 5);
        z.back(0);
        due("core() as kept", z.core(), 3);
        due("ANEW as kept", z.count(13), 0);
    }

    private static void promise16() {
        Subject x = told("grow 4;1 3 4;1 3 -4;");
        int[] none = {0, -1, 201, Integer.MAX_VALUE, Integer.MIN_VALUE};
        for (int n : none) {
            due("solve(" + n + ")", x.solve(n), -1);
        }
        due("no SEARCH was", x.count(14), -1);
        due("solve(200)", x.solve(200), 1);
        dueClause(x, 2, 3, 1);
        dueCounts(x, 1, 5, 1, 0);
        dueModel(x, 0, 0, 1, 1);
        due("score of 1", x.variable(1, 1), 14);
        due("score of 2", x.variable(2, 1), 0);
        due("phase of 3", x.variable(3, 0), 1);
        due("phase of 4", x.variable(4, 0), 1);
    }

    private static void promise16trims() {
        Subject x = told("grow 4;1 -2;1 2 3 4;1 2 3 -4;");
        due("solve(9)", x.solve(9), 1);
        dueClause(x, 3, 3, 1);
        dueCounts(x, 1, 3, 2, 0);
        dueModel(x, 0, 0, 1, 1);
        due("what was dropped was SEEN", x.variable(2, 1), 14);
    }

    private static void promise16startsAnew() {
        Subject x = told("grow 4;1 3 4;1 3 -4;");
        x.unit(1);
        due("solve(9)", x.solve(9), 1);
        dueCounts(x, 1, 6, 2, 1);
        dueModel(x, 0, 0, 1, 1);
        Subject y = told("grow 4;1 3 4;1 3 -4;");
        y.unit(2);
        due("solve(9)", y.solve(9), 1);
        dueCounts(y, 1, 5, 1, 0);
        Subject z = told("grow 4;1 3 4;1 3 -4;");
        z.unit(1);
        due("solve(1)", z.solve(1), 2);
        dueCounts(z, 1, 3, 1, 1);
    }

    private static void promise16ends() {
        Subject x = told(ALL_FOUR);
        due("solve(1)", x.solve(1), 2);
        dueClause(x, 4, 1);
        due("phase of 1: the learnt literal left last", x.variable(1, 0), 1);
        due("phase of 2", x.variable(2, 0), 1);
        due("core()", x.core(), -1);
        due("solve(1)", x.solve(1), 0);
        due("REFUTED", x.count(8), 1);
        due("lines", x.count(7), 2);
        dueCounts(x, 1, 1, 3, 0);
        due("solve(1)", x.solve(1), 0);
        dueCounts(x, 1, 1, 3, 0);
        due("the EMPTY line comes once", x.count(7), 2);
        x.assume(1);
        due("solve(1)", x.solve(1), 0);
        due("core()", x.core(), 0);
        due("solve of no variables", new Subject().solve(1), 1);
        Subject once = told(ALL_FOUR);
        due("solve(2)", once.solve(2), 0);
    }

    /** With its budget as its conflicts, how often it starts anew goes by the sums of the row alone. */
    private static void promise16row() {
        int[] sums = {1, 2, 4, 5, 6, 8, 12, 13, 14, 16, 17, 18, 20, 24};
        for (int unit = 1; unit <= 3; unit++) {
            for (int i = 0; i < sums.length && unit * sums[i] <= 24; i++) {
                Subject x = pigeons();
                x.unit(unit);
                due("solve", x.solve(unit * sums[i]), 2);
                due("ANEW of " + unit + " times " + sums[i], x.count(13), i + 1);
                due("conflicts", x.count(10), unit * sums[i]);
            }
        }
    }

    private static void promise16least() {
        Subject x = told("grow 3;1 2;3 1 -2;1 -2;assume -3;");
        // -3, -1, 2 by clause 0: clauses 1 and 2 are all false, and that of 1 is learnt from
        due("solve(1)", x.solve(1), 2);
        dueClause(x, 3, 1, 3);
    }

    private static void promise16trimsByLevel0() {
        Subject x = told("grow 5;5;1 -2 -5;1 2 3 4;1 2 3 -4;");
        due("solve(1)", x.solve(1), 2);
        dueClause(x, 4, 3, 1);
        due("LEVEL 0 is not SEEN", x.variable(5, 1), 0);
    }

    private static void promise16full() {
        Subject x = pigeons();
        int ended = 2;
        for (int i = 0; i < 100 && ended == 2; i++) {
            ended = x.solve(4);
            x.forget(1);
        }
        due("ended", ended, 3);
        due("count(14)", x.count(14), 3);
        due("core()", x.core(), -1);
        due("CLAUSES", x.count(1), 400);
        due("LEARNT at", x.count(10), 355);
        due("lines", x.count(7), 355);
        due("proof()", x.proof(), -1);
        x.add(1);
        due("close() at 400", x.close(), -1);
        due("it is as it was", x.count(5), 1);
        dueFault(x, "phase 1;-1;", 3, 8);
        dueFault(x, "phase 1;1;", 3, 8);
    }

    /** The second conflict meets scores of the first: 14 and 16 more is 30, less 3; 14 alone less 1. */
    private static void promise16scores() {
        Subject x = told("grow 5;1 2 3;1 2 -3;1 -2 4;1 -2 -4;");
        // -1, -2, 3 by clause 0, clash 1: 2 1 is learnt, 1 2 3 have 14; at level 1 then 2, 4, clash 3:
        // of 1 2 4 goes 4, of 1 2 goes 2: 1 alone is left
        due("solve(9)", x.solve(9), 1);
        dueClause(x, 4, 2, 1);
        dueClause(x, 5, 1);
        due("score of 1", x.variable(1, 1), 27);
        due("score of 2", x.variable(2, 1), 27);
        due("score of 3", x.variable(3, 1), 13);
        due("score of 4", x.variable(4, 1), 14);
        due("score of 5", x.variable(5, 1), 0);
        // then 2 (so), 4 (so), 3 (so) and 5 (not so) by their scores and phases
        dueModel(x, 1, 1, 1, 1, 0);
        dueCounts(x, 2, 6, 2, 0);
    }

    private static void promise17() {
        Subject x = told("grow 4;1 3 4;1 3 -4;assume 2;");
        x.add(1);
        x.add(2);
        x.unit(9);
        x.solve(9);
        put(x, "abc");
        int[] counts = {4, 3, 2, 1, 1, 2, 9, 1, 0, 3, 1};
        for (int i = 0; i < counts.length; i++) {
            due("count(" + i + ")", x.count(i), counts[i]);
        }
        due("count(14)", x.count(14), 1);
        x.forget(1);
        due("CLAUSES, GONE ones too", x.count(1), 3);
        due("not GONE", x.count(3), 0);
        int[] none = {-1, 15, Integer.MAX_VALUE, Integer.MIN_VALUE};
        for (int n : none) {
            due("count(" + n + ")", x.count(n), -1);
        }
    }

    private static void promise18() {
        Subject x = told("grow 3;-3 1;2;");
        dueClause(x, 0, -3, 1);
        dueClause(x, 1, 2);
        due("LEARNT", clauseOf(x, 0, -2), 0);
        due("GONE", clauseOf(x, 0, -3), 0);
        due("what -4", clauseOf(x, 0, -4), THREW);
        due("what MIN", clauseOf(x, 0, Integer.MIN_VALUE), THREW);
        due("what MAX", clauseOf(x, 0, Integer.MAX_VALUE), THREW);
        due("clause 2", clauseOf(x, 2, -1), THREW);
        due("clause -1", clauseOf(x, -1, -1), THREW);
        due("clause MIN", clauseOf(x, Integer.MIN_VALUE, 0), THREW);
        due("clause MAX", clauseOf(x, Integer.MAX_VALUE, 0), THREW);
        due("of none", clauseOf(new Subject(), 0, -1), THREW);
    }

    private static void promise19() {
        Subject x = told("grow 3;assume 3 -1;");
        due("assumption(0)", x.assumption(0), 3);
        due("assumption(1)", x.assumption(1), -1);
        int[] none = {2, -1, 8, Integer.MAX_VALUE, Integer.MIN_VALUE};
        for (int n : none) {
            due("assumption(" + n + ")", x.assumption(n), 0);
        }
    }

    private static void promise20() {
        Subject x = told("grow 2;1 2;");
        due("ahead of any", x.model(1), -1);
        x.solve(1);
        dueModel(x, 0, 1);
        x.grow(1);
        due("no such VARIABLE then", x.model(3), -1);
        due("model(0)", x.model(0), -1);
        due("model(-1)", x.model(-1), -1);
        due("model(MIN)", x.model(Integer.MIN_VALUE), -1);
        put(x, "assume -1 -2;");
        x.tell();
        due("solve", x.solve(1), 0);
        dueModel(x, 0, 1);
        x.free();
        put(x, "assume 1 -2;");
        x.tell();
        due("solve", x.solve(1), 1);
        dueModel(x, 1, 0, 0);
    }

    private static void promise21() {
        Subject x = told("grow 4;-1 2;-2 3;assume 4 1 -3;");
        due("ahead of any", x.core(), -1);
        due("solve", x.solve(1), 0);
        due("core()", x.core(), 6);
        x.free();
        due("by their places then", x.core(), 6);
        due("solve", x.solve(1), 1);
        due("it did not end 0", x.core(), -1);
        put(x, "3;assume 2 -3;");
        x.tell();
        due("solve", x.solve(1), 0);
        due("FALSE at LEVEL 0", x.core(), 2);
        Subject y = told("grow 3;1;-1 -2 3;assume 2 -3;");
        due("solve", y.solve(1), 0);
        due("LEVEL 0 is none of it", y.core(), 3);
        put(y, "-1;");
        y.tell();
        due("solve", y.solve(1), 0);
        due("REFUTED", y.core(), 0);
    }

    private static void promise22() {
        Subject x = told("grow 3;1 -2;2;");
        due("in two", x.variable(2, 2), 2);
        due("in none", x.variable(3, 2), 0);
        due("PHASE", x.variable(1, 0), 0);
        due("SCORE", x.variable(1, 1), 0);
        x.phase(1);
        due("PHASE", x.variable(1, 0), 1);
        int[] none = {-1, 3, Integer.MAX_VALUE, Integer.MIN_VALUE};
        for (int n : none) {
            due("what " + n, x.variable(1, n), -1);
        }
        int[] noVariable = {0, -1, 4, Integer.MAX_VALUE, Integer.MIN_VALUE};
        for (int n : noVariable) {
            due("variable " + n, x.variable(n, 0), -1);
        }
        x.add(3);
        due("one being told is none yet", x.variable(3, 2), 0);
    }

    private static void promise23() {
        Subject x = told("grow 4;-1 2;-2 -4;1;3 4;assume 4;");
        // clause 2 draws 1; then clause 0 2, clause 1 -4, clause 3 3
        int[] order = {1, 2, -4, 3};
        due("how many", x.follows(-1), 4);
        for (int i = 0; i < 4; i++) {
            due("follows(" + i + ")", x.follows(i), order[i]);
        }
        int[] none = {4, 30, -2, Integer.MAX_VALUE, Integer.MIN_VALUE};
        for (int n : none) {
            due("follows(" + n + ")", x.follows(n), 0);
        }
        due("no SEARCH was", x.count(14), -1);
        due("none is counted", x.count(12), 0);
        due("PHASES stay", x.variable(1, 0), 0);
        // clauses 0 and 1 clash, and yet what else can be drawn comes
        Subject y = told("grow 3;1;-1;3;-3 2;");
        due("a clash", y.follows(-1), 100);
        due("follows(0)", y.follows(0), 1);
        due("follows(1)", y.follows(1), 3);
        due("follows(2)", y.follows(2), 2);
        due("follows(3)", y.follows(3), 0);
        due("of nothing", new Subject().follows(-1), 0);
    }

    private static void promise24() {
        Subject x = told("grow 4;1 3 4;1 3 -4;");
        due("no line yet", x.line(0, -1), -100);
        x.solve(9);
        due("line(0, -1)", x.line(0, -1), 2);
        due("line(0, 0)", x.line(0, 0), 3);
        due("line(0, 1)", x.line(0, 1), 1);
        int[] none = {2, -2, Integer.MAX_VALUE, Integer.MIN_VALUE};
        for (int n : none) {
            due("line(0, " + n + ")", x.line(0, n), -100);
        }
        int[] noLine = {1, -1, Integer.MAX_VALUE, Integer.MIN_VALUE};
        for (int n : noLine) {
            due("line(" + n + ", -1)", x.line(n, -1), -100);
        }
        put(x, "1;-3;-1 3;");
        x.tell();
        due("solve", x.solve(9), 0);
        due("the EMPTY line", x.line(1, -1), 0);
        due("its first literal", x.line(1, 0), -100);
        due("line(2, -1)", x.line(2, -1), -100);
    }

    private static void promise25() {
        Subject x = told(ALL_FOUR);
        due("of no line", x.proof(), -1);
        x.solve(9);
        due("lines", x.count(7), 2);
        due("proof()", x.proof(), -1);
        x.forget(1);
        due("proof()", x.proof(), -1);
    }

    private static void promise26() {
        Subject x = told(ALL_FOUR + "grow 10;");
        due("of nothing", x.refute(), 0);
        put(x, "3;");
        due("not drawn", x.refute(), 0);
        put(x, "1 3;2 4;5;1;");
        due("refute()", x.refute(), 2);
        put(x, "1 3;3;");
        due("by a line ahead", x.refute(), 2);
        put(x, "1;3;;-3 2;");
        due("refute()", x.refute(), 4);
        put(x, ";1;");
        due("the EMPTY line alone is not drawn", x.refute(), 0);
        put(x, "1 2 3 4 5 6 7 8 9 -10;");
        due("of any length", x.refute(), 1);
        due("TAPE", x.count(9), 0);
        dueLogFault(x, "3;1", 1, 3);
        dueLogFault(x, "1 1;", 2, 2);
        dueLogFault(x, "1 -1;", 2, 3);
        dueLogFault(x, "13;", 2, 0);
        dueLogFault(x, "-0;", 2, 1);
        dueLogFault(x, "1;assume 1;", 1, 2);
        dueLogFault(x, "1 100;", 1, 2);
        due("told CLAUSES stay", x.count(1), 4);
        x.solve(9);
        put(x, ";");
        due("LEARNT ones do not help", x.refute(), 0);
    }

    private static void promise27() {
        Subject x = told(ALL_FOUR);
        due("ahead of any", x.closed(), -1);
        dueLogFault(x, "9;", 2, 0);
        due("a FAULT is none", x.closed(), -1);
        put(x, "1;");
        x.refute();
        due("no EMPTY line", x.closed(), 0);
        put(x, "1;;2;");
        x.refute();
        due("the EMPTY line", x.closed(), 1);
        dueLogFault(x, "9;", 2, 0);
        due("as it was ahead of the FAULT", x.closed(), 1);
        put(x, ";1;;");
        x.refute();
        due("behind one that is not ACCEPTED", x.closed(), 0);
    }

    private static void promise28() {
        Subject x = new Subject();
        due("of nothing", x.models(), 1);
        x.grow(5);
        due("of 5", x.models(), 32);
        put(x, "1 2;assume -1 -2;");
        x.tell();
        due("ASSUMPTIONS aside", x.models(), 24);
        x.grow(1);
        due("of 6", x.models(), 48);
        x.grow(6);
        due("of 12", x.models(), 3072);
        put(x, "-12;7 -8 11;");
        x.tell();
        due("of 12", x.models(), 1344);
        x.grow(1);
        due("of 13", x.models(), -1);
        due("of a clash", told("grow 1;1;-1;").models(), 0);
        Subject y = told("grow 1;");
        y.add(1);
        due("one being told is none yet", y.models(), 2);
    }

    private static void promise29() {
        Subject x = told("grow 12;1 2;1 -2;-12;-7 12;8 7;-3 9;3 9;");
        due("so", x.fixed(true), 1 | 1 << 7 | 1 << 8);
        due("not so", x.fixed(false), 1 << 11 | 1 << 6);
        x.grow(1);
        due("of 13", x.fixed(true), -1);
        due("of 13", x.fixed(false), -1);
        Subject y = told("grow 1;1;-1;");
        due("of a clash", y.fixed(true), -1);
        due("of a clash", y.fixed(false), -1);
        due("of nothing", new Subject().fixed(false), 0);
        due("ASSUMPTIONS aside", told("grow 2;assume 1;").fixed(true), 0);
    }

    private static void say(String name) {
        now = name;
    }

    public static void main(String[] args) {
        say("1 a new object"); promise1();
        say("2 feed"); promise2();
        say("3 end"); promise3();
        say("4 tell"); promise4();
        say("5 fault"); promise5();
        say("6 grow"); promise6();
        say("7 add"); promise7();
        say("8 close"); promise8();
        say("9 assume"); promise9();
        say("10 free"); promise10();
        say("11 phase"); promise11();
        say("12 unit"); promise12();
        say("13 forget"); promise13();
        say("14 keep, 15 back"); promise14and15();
        say("16 solve"); promise16();
        say("16 solve, trims"); promise16trims();
        say("16 solve, starts anew"); promise16startsAnew();
        say("16 solve, ends"); promise16ends();
        say("16 solve, scores"); promise16scores();
        say("16 solve, the row of numbers"); promise16row();
        say("16 solve, the least clause"); promise16least();
        say("16 solve, trims by level 0"); promise16trimsByLevel0();
        say("16 solve, 8 close, 5 fault, 400 clauses"); promise16full();
        say("17 count"); promise17();
        say("18 clause"); promise18();
        say("19 assumption"); promise19();
        say("20 model"); promise20();
        say("21 core"); promise21();
        say("22 variable"); promise22();
        say("23 follows"); promise23();
        say("24 line"); promise24();
        say("25 proof"); promise25();
        say("26 refute"); promise26();
        say("27 closed"); promise27();
        say("28 models"); promise28();
        say("29 fixed"); promise29();
        end("PromisesTest");
    }
}
