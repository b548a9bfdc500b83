/** The boundary cases of promises 24 to 29: the log, its reader, and all models. */
public final class BoundaryLogTest extends Bench {

    // ---- 24

    private static void promise24_noLineYet() {
        Subject x = told("grow 2;1 2;");
        due("line(0, NONE)", x.line(0, NONE), -100);
        due("line(0, 0)", x.line(0, 0), -100);
        x.solve(9);
        due("nothing was LEARNT", x.line(0, NONE), -100);
    }

    private static void promise24_noSuchLine() {
        Subject x = told("grow 4;1 3 4;1 3 -4;");
        x.solve(9);
        int[] none = {1, 2, 3, -1, 400, 401, MAX, MIN};
        for (int n : none) {
            due("line(" + n + ", NONE)", x.line(n, NONE), -100);
            due("line(" + n + ", 0)", x.line(n, 0), -100);
        }
        dueLine(x, 0, 3, 1);
    }

    private static void promise24_noSuchWhat() {
        Subject x = told("grow 4;1 3 4;1 3 -4;");
        x.solve(9);
        int[] none = {2, 3, 400, -2, -3, -4, MAX, MIN};
        for (int what : none) {
            due("line(0, " + what + ")", x.line(0, what), -100);
        }
        due("line(0, 1)", x.line(0, 1), 1);
    }

    private static void promise24_aLineIsNotTheNextOne() {
        Subject x = told(ALL_FOUR);
        due("solve", x.solve(9), 0);
        dueLine(x, 0, 1);
        dueLine(x, 1);
        due("line(2, NONE)", x.line(2, NONE), -100);
    }

    private static void promise24_theEmptyLineAlone() {
        Subject x = told("grow 1;1;-1;");
        due("solve", x.solve(1), 0);
        due("line(0, NONE)", x.line(0, NONE), 0);
        due("line(0, 0)", x.line(0, 0), -100);
        due("line(1, NONE)", x.line(1, NONE), -100);
        x.solve(1);
        due("once", x.count(7), 1);
    }

    private static void promise24_toldOnesBetweenAreNoLines() {
        Subject x = told("grow 6;1 2;1 -2;");
        due("solve", x.solve(9), 1);
        tellMore(x, "5;3 4;3 -4;");
        due("solve", x.solve(9), 1);
        dueLine(x, 0, 1);
        dueLine(x, 1, 3);
        due("lines", x.count(7), 2);
        dueClause(x, 2, 1);
        dueClause(x, 6, 3);
    }

    private static void promise24_asManyAsWereLearnt() {
        Subject x = pigeonsWith(400);
        due("lines", x.count(7), 355);
        due("line(354, NONE)", x.line(354, NONE), clauseOf(x, 399, NONE));
        due("line(354, 0)", x.line(354, 0), clauseOf(x, 399, 0));
        due("line(355, NONE)", x.line(355, NONE), -100);
    }

    private static void promise24_oneThatIsGoneIsALineStill() {
        Subject x = told("grow 4;1 3 4;1 3 -4;");
        x.solve(9);
        x.forget(1);
        due("lines", x.count(7), 1);
        dueLine(x, 0, 3, 1);
    }

    // ---- 25

    private static void promise25_noLine() {
        due("of a new object", new Subject().proof(), NONE);
        due("without a SEARCH", told(ALL_FOUR).proof(), NONE);
    }

    private static void promise25_allLinesAreAccepted() {
        Subject x = told(ALL_FOUR);
        x.solve(9);
        due("with the EMPTY line", x.proof(), NONE);
        Subject full = pigeonsWith(400);
        due("of 355 lines, most of them GONE", full.proof(), NONE);
        Subject hard = rings();
        hard.solve(200);
        hard.solve(200);
        due("of 320 lines", hard.proof(), NONE);
        Subject level0 = told("grow 1;1;-1;");
        level0.solve(1);
        due("of the EMPTY line alone", level0.proof(), NONE);
    }

    private static void promise25_byWhatIsToldLaterToo() {
        Subject x = told("grow 4;1 3 4;1 3 -4;");
        x.solve(9);
        tellMore(x, "3;-1;-3 1;");
        due("proof()", x.proof(), NONE);
        due("solve", x.solve(9), 0);
        due("proof()", x.proof(), NONE);
    }

    private static void promise25_askingChangesNothing() {
        Subject x = rich();
        dueRefused(x, "proof()", x::proof, NONE);
    }

    // ---- 26

    private static void promise26_anEmptyText() {
        Subject x = told(ALL_FOUR);
        dueLog(x, "", 0);
        dueLog(x, " \n ", 0);
        due("of a new object", new Subject().refute(), 0);
    }

    private static void promise26_fromTheFirstOn() {
        Subject x = told("grow 9;1 2;1 -2;-1 2;-1 -2;");
        dueLog(x, "3;", 0);
        dueLog(x, "3;1;2;", 0);
        dueLog(x, "1;", 1);
        dueLog(x, "1 3;4;1;", 1);
        dueLog(x, "1 3;1 4;5;1;", 2);
        dueLog(x, "1;2;-2;", 3);
    }

    private static void promise26_byLinesAhead() {
        Subject x = told("grow 9;1 2 3;1 2 -3;1 -2 4;1 -2 -4;");
        dueLog(x, "1;", 0);
        dueLog(x, "1 2;1;", 2);
        dueLog(x, "1;1 2;", 0);
        dueLog(x, "1 2;1-2;1;", 3);
    }

    private static void promise26_aLineThatIsNotAcceptedHelpsNone() {
        Subject x = told("grow 9;1 2;");
        dueLog(x, "1 2;3;3 4;", 1);
        due("closed()", x.closed(), 0);
    }

    private static void promise26_aToldClauseAsALine() {
        Subject x = told("grow 9;1-2;");
        dueLog(x, "1-2;", 1);
        dueLog(x, "-2 1;", 1);
        dueLog(x, "1-2 3;", 1);
        dueLog(x, "1;", 0);
        dueLog(x, "-2;", 0);
        dueLog(x, "-1-2;", 0);
    }

    private static void promise26_learntOnesDoNotHelp() {
        Subject x = told("grow 9;1 2 3;1 2 -3;1 -2 4;1 -2 -4;");
        dueLog(x, "1;", 0);
        due("solve", x.solve(9), 1);
        dueClause(x, 5, 1);
        dueLog(x, "1;", 0);
    }

    private static void promise26_sinceTheLatestNothingStays() {
        Subject x = told(ALL_FOUR);
        dueLog(x, "1;;", 2);
        dueLog(x, ";", 0);
    }

    private static void promise26_soonerOrLater() {
        Subject x = told("grow 30;");
        // told backwards, so that each draws only behind the one that is told after it
        for (int v = 29; v >= 1; v--) {
            tellMore(x, "-" + v + " " + (v + 1) + ";");
        }
        dueLog(x, "-1 30;", 1);
        dueLog(x, "-1;", 0);
        tellMore(x, "-29-30;");
        dueLog(x, "-1;", 1);
        dueLog(x, "1;", 0);
        tellMore(x, "1;");
        dueLog(x, ";", 1);
    }

    private static void promise26_theEmptyLineMakesAllFollow() {
        Subject x = told("grow 3;1;-1;");
        dueLog(x, ";2;-2;3;;", 5);
        due("closed()", x.closed(), 1);
    }

    private static void promise26_theMostLines() {
        Subject x = told("grow 1;" + times(40, "1;-1;"));
        due("told ones", x.count(2), 80);
        dueLog(x, times(400, ";"), 400);
        due("closed()", x.closed(), 1);
        Subject y = told("grow 1;1;");
        dueLog(y, times(200, "1;"), 200);
        dueLog(y, times(400, ";"), 0);
    }

    private static void promise26_theLongestLine() {
        Subject x = told("grow 30;1;");
        StringBuilder line = new StringBuilder();
        for (int v = 1; v <= 30; v++) {
            line.append(' ').append(v);
        }
        dueLog(x, line + ";", 1);
        dueLogFault(x, line + " 1;", 2, line.length() + 1);
    }

    private static void promise26_moreThan80Lines() {
        Subject x = fullOfTold();
        dueLog(x, times(100, "1;"), 100);
    }

    private static void promise26_withoutVariables() {
        Subject x = new Subject();
        dueLog(x, ";", 0);
        dueLogFault(x, "1;", 2, 0);
    }

    private static void promise26_faults() {
        Subject x = told("grow 9;1;");
        dueLogFault(x, "1", 1, 1);
        dueLogFault(x, "1 ", 1, 2);
        dueLogFault(x, "1;-", 1, 3);
        dueLogFault(x, "1;-;", 1, 3);
        dueLogFault(x, "--1;", 1, 1);
        dueLogFault(x, "grow 1;", 1, 0);
        dueLogFault(x, "1 assume;", 1, 2);
        dueLogFault(x, "assume 1;", 1, 0);
        dueLogFault(x, "phase 1;", 1, 0);
        dueLogFault(x, "1\t;", 1, 1);
        dueLogFault(x, "001;", 1, 0);
        dueLogFault(x, "1-100;", 1, 2);
        dueLogFault(x, "0;", 2, 0);
        dueLogFault(x, "-0;", 2, 1);
        dueLogFault(x, "10;", 2, 0);
        dueLogFault(x, "1;;10;", 2, 3);
        dueLogFault(x, "2 1 2;", 2, 4);
        dueLogFault(x, "2-2;", 2, 2);
        dueLogFault(x, times(399, ";") + "1", 1, 400);
        dueLog(x, "1;1;-2 1;", 3);
    }

    private static void promise26_aFaultBehindALineThatIsNotAccepted() {
        Subject x = told("grow 9;1;");
        dueLogFault(x, "2;0;", 2, 2);
        dueLogFault(x, "2;3", 1, 3);
    }

    private static void promise26_nothingElseChanges() {
        Subject x = rich();
        x.end(0);
        dueLog(x, "1 3;", 1);
        dueLogFault(x, "0;", 2, 0);
        String before = pictureOf(x);
        dueLog(x, "1 3;3 1 2;5;", 2);
        dueLogFault(x, "0;", 2, 0);
        dueLogFault(x, "1;;0;", 2, 3);
        dueLogFault(x, "0;", 2, 0);
        dueSame("all", pictureOf(x), before);
    }

    // ---- 27

    private static void promise27_aheadOfAny() {
        Subject x = told(ALL_FOUR);
        due("closed()", x.closed(), NONE);
        x.solve(9);
        due("a SEARCH is none", x.closed(), NONE);
        dueTold(x, "", 0);
        due("tell() is none", x.closed(), NONE);
    }

    private static void promise27_aFaultIsNone() {
        Subject x = told(ALL_FOUR);
        dueLogFault(x, "1;;0;", 2, 3);
        due("closed()", x.closed(), NONE);
        dueLog(x, "1;;", 2);
        due("closed()", x.closed(), 1);
        dueLogFault(x, "0;", 2, 0);
        due("that of the latest without one", x.closed(), 1);
        dueLog(x, "1;", 1);
        due("closed()", x.closed(), 0);
        dueLogFault(x, "1;;0;", 2, 3);
        due("closed()", x.closed(), 0);
    }

    private static void promise27_anEmptyText() {
        Subject x = told(ALL_FOUR);
        dueLog(x, "", 0);
        due("closed()", x.closed(), 0);
        Subject y = new Subject();
        dueLog(y, "", 0);
        due("closed()", y.closed(), 0);
    }

    private static void promise27_whereverTheEmptyLineStands() {
        Subject x = told("grow 3;1;-1;");
        dueLog(x, ";", 1);
        due("alone", x.closed(), 1);
        dueLog(x, ";2;3;", 3);
        due("the first", x.closed(), 1);
        dueLog(x, "2;;3;", 3);
        due("between", x.closed(), 1);
        dueLog(x, "2;3;;", 3);
        due("the last", x.closed(), 1);
        dueLog(x, "2;3;", 2);
        due("nowhere", x.closed(), 0);
    }

    private static void promise27_itMustBeAccepted() {
        Subject x = told(ALL_FOUR);
        dueLog(x, ";", 0);
        due("closed()", x.closed(), 0);
        dueLog(x, "1;;", 2);
        due("closed()", x.closed(), 1);
        Subject y = told("grow 3;1 2;");
        dueLog(y, "1 2;;", 1);
        due("closed()", y.closed(), 0);
        dueLog(y, "3;;", 0);
        due("closed()", y.closed(), 0);
    }

    private static void promise27_itIsKeptAndGoneBackTo() {
        Subject x = told(ALL_FOUR);
        x.keep(0);
        dueLog(x, "1;;", 2);
        x.keep(1);
        x.back(0);
        due("closed()", x.closed(), NONE);
        x.back(1);
        due("closed()", x.closed(), 1);
    }

    // ---- 28

    private static void promise28_withoutClauses() {
        Subject x = new Subject();
        due("of no VARIABLES", x.models(), 1);
        for (int v = 1; v <= 12; v++) {
            x.grow(1);
            due("of " + v, x.models(), 1 << v);
        }
        x.grow(1);
        due("of 13", x.models(), NONE);
        x.grow(17);
        due("of 30", x.models(), NONE);
    }

    private static void promise28_noneAtAll() {
        for (int v = 1; v <= 12; v++) {
            Subject x = told("grow " + v + ";1;");
            due("of " + v, x.models(), 1 << (v - 1));
            tellMore(x, "-1;");
            due("none of " + v, x.models(), 0);
        }
    }

    private static void promise28_one() {
        for (int v = 1; v <= 12; v++) {
            Subject x = told("grow " + v + ";");
            for (int k = 1; k <= v; k++) {
                tellMore(x, (k % 2 == 0 ? "-" : "") + k + ";");
            }
            due("of " + v, x.models(), 1);
        }
    }

    private static void promise28_aClauseOfEightLeavesAllButOneOf256() {
        due("models()", told("grow 12;1-2 3-4 9-10 11-12;").models(), 4096 - 16);
        due("models()", told("grow 8;1 2 3 4 5 6 7 8;").models(), 255);
    }

    private static void promise28_assumptionsAside() {
        Subject x = told("grow 3;1 2;assume -1 -2;");
        due("models()", x.models(), 6);
        due("solve", x.solve(1), 0);
        due("models()", x.models(), 6);
    }

    private static void promise28_with80Clauses() {
        Subject x = told("grow 7;");
        for (int m = 0; m < 80; m++) {
            StringBuilder text = new StringBuilder();
            for (int v = 1; v <= 7; v++) {
                text.append((m >> (v - 1) & 1) == 0 ? " " : "-").append(v);
            }
            tellMore(x, text + ";");
        }
        due("each of 80 takes one away", x.models(), 128 - 80);
    }

    private static void promise28_askingChangesNothing() {
        Subject x = rich();
        dueRefused(x, "models()", x::models, x.models());
    }

    // ---- 29

    private static void promise29_withoutClauses() {
        for (int v = 0; v <= 12; v++) {
            Subject x = v == 0 ? new Subject() : told("grow " + v + ";");
            due("so of " + v, x.fixed(true), 0);
            due("not so of " + v, x.fixed(false), 0);
        }
    }

    private static void promise29_above12() {
        Subject x = told("grow 12;12;-11;");
        due("so", x.fixed(true), 1 << 11);
        due("not so", x.fixed(false), 1 << 10);
        x.grow(1);
        due("so", x.fixed(true), NONE);
        due("not so", x.fixed(false), NONE);
    }

    private static void promise29_all12() {
        Subject x = told("grow 12;1;2;3;4;5;6;7;8;9;10;11;12;");
        due("so", x.fixed(true), 4095);
        due("not so", x.fixed(false), 0);
        Subject y = told("grow 12;-1;-2;-3;-4;-5;-6;-7;-8;-9;-10;-11;-12;");
        due("so", y.fixed(true), 0);
        due("not so", y.fixed(false), 4095);
    }

    private static void promise29_eachAlone() {
        for (int v = 1; v <= 12; v++) {
            Subject x = told("grow 12;" + v + ";");
            due("so " + v, x.fixed(true), 1 << (v - 1));
            due("not so " + v, x.fixed(false), 0);
            Subject y = told("grow 12;-" + v + ";");
            due("so " + v, y.fixed(true), 0);
            due("not so " + v, y.fixed(false), 1 << (v - 1));
        }
    }

    private static void promise29_thereAreNone() {
        Subject x = told("grow 12;12;-12;");
        due("so", x.fixed(true), NONE);
        due("not so", x.fixed(false), NONE);
        due("so", told(ALL_FOUR).fixed(true), NONE);
    }

    private static void promise29_notByDrawingAlone() {
        Subject x = told("grow 3;1 2;1 -2;");
        due("follows", x.follows(NONE), 0);
        due("so", x.fixed(true), 1);
        due("ASSUMPTIONS aside", told("grow 3;1 2;assume -1;").fixed(true), 0);
        due("ASSUMPTIONS aside", told("grow 3;1 2;assume -1;").fixed(false), 0);
    }

    private static void promise29_askingChangesNothing() {
        Subject x = rich();
        dueRefused(x, "fixed(true)", () -> x.fixed(true), x.fixed(true));
        dueRefused(x, "fixed(false)", () -> x.fixed(false), x.fixed(false));
    }

    public static void main(String[] args) {
        runAll(BoundaryLogTest.class);
    }
}
