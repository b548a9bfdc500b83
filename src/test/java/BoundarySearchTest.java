/** The boundary cases of promises 16 to 23: searches, and what can be asked of them. */
public final class BoundarySearchTest extends Bench {

    // ---- 16: budgets

    private static void promise16_noSuchBudget() {
        int[] none = {0, -1, 201, 202, MAX, MIN};
        Subject x = rich();
        for (int n : none) {
            dueRefused(x, "solve(" + n + ")", () -> x.solve(n), NONE);
        }
        Subject y = new Subject();
        for (int n : none) {
            dueRefused(y, "solve(" + n + ")", () -> y.solve(n), NONE);
        }
    }

    private static void promise16_budgetsFrom1To200() {
        Subject x = told("grow 2;1 2;");
        for (int n = 1; n <= 200; n++) {
            due("solve(" + n + ")", x.solve(n), 1);
        }
    }

    private static void promise16_theLastConflictOfTheBudgetEndsIt() {
        String text = "grow 4;1 3 4;1 3 -4;";
        due("one conflict, solve(1)", told(text).solve(1), 2);
        due("one conflict, solve(2)", told(text).solve(2), 1);
        due("one LEARNT, then LEVEL 0, solve(1)", told(ALL_FOUR).solve(1), 2);
        due("one LEARNT, then LEVEL 0, solve(2)", told(ALL_FOUR).solve(2), 0);
    }

    private static void promise16_aBudgetOf200IsUsedUp() {
        Subject x = rings();
        due("solve(200)", x.solve(200), 2);
        due("conflicts", x.count(10), 200);
        due("CLAUSES", x.count(1), 280);
        Subject y = rings();
        due("solve(199)", y.solve(199), 2);
        due("conflicts", y.count(10), 199);
    }

    private static void promise16_theBudgetIsOfThisSearchAlone() {
        Subject x = rings();
        for (int i = 1; i <= 5; i++) {
            due("solve(3)", x.solve(3), 2);
            due("conflicts", x.count(10), 3 * i);
        }
    }

    private static void promise16_theLastConflictIsLearntWhole() {
        Subject x = told("grow 4;1 3 4;1 3 -4;");
        due("solve(1)", x.solve(1), 2);
        dueClause(x, 2, 3, 1);
        dueCounts(x, 1, 3, 1, 0);
        due("SCORE of 4", x.variable(4, 1), 14);
        int[] phases = {0, 0, 1, 1};
        for (int v = 1; v <= 4; v++) {
            due("PHASE of " + v, x.variable(v, 0), phases[v - 1]);
        }
    }

    // ---- 16: 400 clauses

    private static void promise16_the400thIsLearntStill() {
        Subject x = pigeonsWith(399);
        int conflicts = x.count(10);
        due("solve(1)", x.solve(1), 2);
        due("CLAUSES", x.count(1), 400);
        due("conflicts", x.count(10), conflicts + 1);
        due("lines", x.count(7), 355);
    }

    private static void promise16_at400AConflictEnds3() {
        Subject x = pigeonsWith(399);
        due("solve(200)", x.solve(200), 3);
        due("CLAUSES", x.count(1), 400);
        due("conflicts", x.count(10), 355);
        int[] scores = new int[21];
        for (int v = 1; v <= 20; v++) {
            scores[v] = x.variable(v, 1);
        }
        for (int budget = 1; budget <= 200; budget += 199) {
            due("solve(" + budget + ")", x.solve(budget), 3);
            due("count(14)", x.count(14), 3);
            due("core()", x.core(), NONE);
            due("CLAUSES", x.count(1), 400);
            due("none was LEARNT", x.count(10), 355);
            due("lines", x.count(7), 355);
            due("not REFUTED", x.count(8), 0);
        }
        for (int v = 1; v <= 20; v++) {
            due("SCORE of " + v, x.variable(v, 1), scores[v]);
        }
    }

    private static void promise16_at400With80Told() {
        Subject x = rings();
        due("solve(200)", x.solve(200), 2);
        due("solve(200)", x.solve(200), 3);
        due("CLAUSES", x.count(1), 400);
        due("conflicts", x.count(10), 320);
        due("lines", x.count(7), 320);
    }

    private static void promise16_at400AConflictOfLevel0Ends0() {
        Subject x = pigeonsWith(398);
        tellMore(x, "1;-1;");
        due("CLAUSES", x.count(1), 400);
        due("solve", x.solve(1), 0);
        due("REFUTED", x.count(8), 1);
        due("lines", x.count(7), 354);
        due("the EMPTY line", x.line(353, NONE), 0);
        due("core()", x.core(), 0);
    }

    private static void promise16_at400AnAssumptionThatIsFalseEnds0() {
        Subject x = pigeonsWith(399);
        tellMore(x, "1;assume -1;");
        due("solve", x.solve(1), 0);
        due("core()", x.core(), 1);
        due("not REFUTED", x.count(8), 0);
    }

    /** Pigeons who may also stay away (21): there is a model, but not under the assumption that none does. */
    private static void promise16_at400AModelEnds1() {
        Subject x = told("grow 21;1 2 3 4 21;5 6 7 8 21;9 10 11 12 21;13 14 15 16 21;17 18 19 20 21;assume -21;");
        for (int hole = 1; hole <= 4; hole++) {
            for (int p = hole; p <= 20; p += 4) {
                for (int q = p + 4; q <= 20; q += 4) {
                    x.add(-p);
                    x.add(-q);
                    x.close();
                }
            }
        }
        for (int i = 0; i < 100 && x.count(14) != 3; i++) {
            x.solve(4);
            x.forget(2);
        }
        due("CLAUSES", x.count(1), 400);
        due("count(14)", x.count(14), 3);
        tellMore(x, "assume;phase 21-1-2-3-4-5-6-7-8-9-10-11-12-13-14-15-16-17-18-19-20;");
        due("solve", x.solve(1), 1);
        due("model(21)", x.model(21), 1);
    }

    // ---- 16: a) to e)

    private static void promise16_a_theLeastNumber() {
        // -3, -1, then 2 by clause 0: clauses 1 and 2 are all false at once
        Subject x = told("grow 3;1 2;3 1 -2;1 -2;assume -3;");
        due("solve(1)", x.solve(1), 2);
        dueClause(x, 3, 1, 3);
        Subject y = told("grow 3;1 2;1 -2;3 1 -2;assume -3;");
        due("solve(1)", y.solve(1), 2);
        dueClause(y, 3, 1);
    }

    private static void promise16_a_aheadOfB() {
        Subject x = told("grow 3;1;-1;2;");
        due("solve", x.solve(1), 0);
        dueCounts(x, 0, 0, 1, 0);
    }

    private static void promise16_a_atLevel0ItIsRefuted() {
        Subject x = told("grow 1;1;-1;");
        due("solve(1)", x.solve(1), 0);
        due("REFUTED", x.count(8), 1);
        due("core()", x.core(), 0);
        due("CLAUSES", x.count(1), 2);
        due("lines", x.count(7), 1);
        dueLine(x, 0);
        dueCounts(x, 0, 0, 1, 0);
    }

    private static void promise16_a_atLevel0WithAssumptionsItIsRefuted() {
        Subject x = told("grow 3;1;-1;assume 2 3;");
        due("solve(1)", x.solve(1), 0);
        due("REFUTED", x.count(8), 1);
        due("core()", x.core(), 0);
    }

    private static void promise16_a_refutedEndsAtOnceFromNowOn() {
        Subject x = told("grow 3;1;-1;");
        due("solve(1)", x.solve(1), 0);
        due("PHASE of 1", x.variable(1, 0), 1);
        tellMore(x, "phase -1;2;assume 3;");
        due("solve(200)", x.solve(200), 0);
        dueCounts(x, 0, 0, 1, 0);
        due("PHASE of 1", x.variable(1, 0), 0);
        due("PHASE of 2", x.variable(2, 0), 0);
        due("core()", x.core(), 0);
        due("the EMPTY line comes once", x.count(7), 1);
        due("REFUTED", x.count(8), 1);
    }

    private static void promise16_b_theLeastNumberIsTheReason() {
        // -2 is assumed, -1 decided; 3 comes by the first of two clauses
        Subject x = told("grow 3;1 2 3;1 3;-3 1;assume -2;");
        due("solve(1)", x.solve(1), 2);
        dueClause(x, 3, 1, 2);
        Subject y = told("grow 3;1 3;1 2 3;-3 1;assume -2;");
        due("solve(1)", y.solve(1), 2);
        dueClause(y, 3, 1);
    }

    private static void promise16_b_aheadOfC() {
        Subject x = told("grow 1;-1;assume 1;");
        due("solve(1)", x.solve(1), 0);
        dueCounts(x, 0, 0, 1, 0);
        due("core()", x.core(), 1);
        due("not REFUTED", x.count(8), 0);
        due("no line", x.count(7), 0);
    }

    private static void promise16_c_theFirstOfThem() {
        Subject x = told("grow 3;-1 -2;assume 1 2 3;");
        due("solve(1)", x.solve(1), 0);
        due("core()", x.core(), 3);
        due("PHASE of 3: it was not taken", x.variable(3, 0), 0);
        Subject y = told("grow 3;-1 -2;assume 3 2 1;");
        due("solve(1)", y.solve(1), 0);
        due("core()", y.core(), 6);
        due("PHASE of 3", y.variable(3, 0), 1);
    }

    private static void promise16_c_aheadOfD() {
        Subject x = told("grow 1;-1;assume 1;");
        due("nothing is OPEN, and yet", x.solve(1), 0);
    }

    private static void promise16_c_aheadOfE() {
        Subject x = told("grow 8;assume 8 -7 6 -5 4 -3 2 -1;");
        due("solve(1)", x.solve(1), 1);
        dueCounts(x, 0, 0, 0, 0);
        dueModel(x, 0, 1, 0, 1, 0, 1, 0, 1);
    }

    private static void promise16_d_ofNoVariables() {
        Subject x = new Subject();
        due("solve(1)", x.solve(1), 1);
        dueCounts(x, 0, 0, 0, 0);
        due("count(14)", x.count(14), 1);
        due("model(1)", x.model(1), NONE);
        due("model(0)", x.model(0), NONE);
    }

    private static void promise16_d_allDrawn() {
        Subject x = told("grow 2;1;-2;");
        due("solve(1)", x.solve(1), 1);
        dueCounts(x, 0, 0, 2, 0);
        dueModel(x, 1, 0);
    }

    private static void promise16_d_all30Decided() {
        Subject x = told("grow 30;phase 30;");
        due("solve(1)", x.solve(1), 1);
        dueCounts(x, 0, 30, 0, 0);
        due("model(29)", x.model(29), 0);
        due("model(30)", x.model(30), 1);
        due("model(31)", x.model(31), NONE);
    }

    private static void promise16_e_theGreatestScore() {
        // 3 is learnt; then 4 (14) is decided ahead of 1 and 2 (0), and -1 is drawn
        Subject x = told("grow 4;3 4;3 -4;-4 -1;");
        due("solve(9)", x.solve(9), 1);
        dueCounts(x, 1, 5, 2, 0);
        dueModel(x, 0, 0, 1, 1);
    }

    private static void promise16_e_ofLikeOnesTheLeast() {
        Subject x = told("grow 2;1 2;");
        due("solve(9)", x.solve(9), 1);
        dueModel(x, 0, 1);
        // 4 3 is learnt, it starts anew; of 3, 4, 5 (14 each) 3 is decided, and 4 is drawn
        Subject y = told("grow 5;3 4 5;3 4 -5;");
        y.unit(1);
        due("solve(9)", y.solve(9), 1);
        dueCounts(y, 1, 8, 2, 1);
    }

    private static void promise16_e_asItsPhaseTells() {
        Subject x = told("grow 3;phase 1 3;");
        due("solve(9)", x.solve(9), 1);
        dueModel(x, 1, 0, 1);
    }

    private static void promise16_phasesAtEachEnd() {
        Subject model = told("grow 3;1 -2;2;");
        due("solve", model.solve(1), 1);
        duePhases(model, 1, 1, 0);
        Subject refuted = told("grow 3;1;2;-1 -2;");
        due("solve", refuted.solve(1), 0);
        duePhases(refuted, 1, 1, 0);
        Subject assumed = told("grow 3;-1 2;assume 1 -2 3;");
        due("solve", assumed.solve(1), 0);
        duePhases(assumed, 1, 1, 0);
        Subject back = told("grow 3;-2;phase 2;");
        due("solve", back.solve(1), 1);
        duePhases(back, 0, 0, 0);
    }

    private static void promise16_phasesAtTheEnd3() {
        Subject x = pigeonsWith(400);
        tellMore(x, "grow 1;assume 21;");
        due("PHASE ahead", x.variable(21, 0), 0);
        due("solve", x.solve(1), 3);
        due("PHASE of what was assumed", x.variable(21, 0), 1);
    }

    private static void duePhases(Subject x, int... phases) {
        for (int v = 1; v <= phases.length; v++) {
            due("PHASE of " + v, x.variable(v, 0), phases[v - 1]);
        }
    }

    // ---- 16: what is learnt

    private static void promise16_learnt_oneOfLevelNowIsEnough() {
        Subject x = told("grow 4;1 2 3;-3 4 1;-3 -4 1;");
        // -1, -2, 3 by clause 0, 4 by clause 1, clash 2: of 1, 3, 4 goes 4; 3 alone is of LEVEL now
        due("solve(1)", x.solve(1), 2);
        dueClause(x, 3, -3, 1);
        due("SCORE of 2: not SEEN", x.variable(2, 1), 0);
    }

    private static void promise16_learnt_whatHadNoPartInItIsNotSeen() {
        // -5, -1, then 2, 3, 4 by clauses 0 to 2, clash 3: of 1, 4 goes 4 for 2, then 2; 3 stands between them
        Subject x = told("grow 5;1 2;1 5 3;-2 4;1 -4;assume -5;");
        due("solve(1)", x.solve(1), 2);
        dueClause(x, 4, 1);
        due("SCORE of 3", x.variable(3, 1), 0);
        due("SCORE of 5", x.variable(5, 1), 0);
        due("SCORE of 4", x.variable(4, 1), 14);
    }

    private static void promise16_learnt_withoutThoseOfLevel0() {
        Subject x = told("grow 5;5;1 -2 -5;1 2 3 4;1 2 3 -4 -5;");
        due("solve(1)", x.solve(1), 2);
        dueClause(x, 4, 3, 1);
        due("SCORE of 5", x.variable(5, 1), 0);
    }

    private static void promise16_learnt_ofMoreThanEight() {
        Subject x = told("grow 30;1 2 3 4 5 6 26 27;7 8 9 10 11 12 -27 28;"
            + "13 14 15 16 17 18 -28 29;19 20 21 22 23 24 -29 30;25 26 -30;");
        due("solve(1)", x.solve(1), 2);
        int[] falling = new int[26];
        for (int i = 0; i < 26; i++) {
            falling[i] = 26 - i;
        }
        dueClause(x, 5, falling);
        for (int v = 1; v <= 30; v++) {
            due("SCORE of " + v, x.variable(v, 1), 14);
        }
    }

    private static void promise16_learnt_ofLikeLevelsByVariablesRising() {
        Subject x = told("grow 5;1 3;1 2;-3 -2 4 5;-3 -2 4 -5;");
        due("solve(1)", x.solve(1), 2);
        dueClause(x, 4, 4, -2, -3);
    }

    private static void promise16_trimmed_asItWasAheadOfAllDropping() {
        Subject x = told("grow 5;1 2;-2 3;1 -2 -3 4 5;1 -2 -3 4 -5;");
        due("solve(1)", x.solve(1), 2);
        dueClause(x, 4, 4, 1);
        due("SCORE of 3: what was dropped was SEEN", x.variable(3, 1), 14);
    }

    private static void promise16_trimmed_notByOneThatIsNotLeft() {
        Subject x = told("grow 6;1 2 3;-3 4 5;-3 4 -5;");
        // -1, -2, 3 by clause 0; -4, 5 by clause 1, clash 2: 4 and 3, whose REASON has 1 and 2
        due("solve(1)", x.solve(1), 2);
        dueClause(x, 3, 4, -3);
    }

    private static void promise16_trimmed_someOfTheReasonAreLeft() {
        // 2 is drawn by 1 alone; 3 by 1 and 2, but 2 is not in what is left
        Subject x = told("grow 6;1 2;1 -2 3;-3 1 4 5;-3 1 4 -5;");
        due("solve(1)", x.solve(1), 2);
        dueClause(x, 4, 4, 1, -3);
    }

    /** 15 blocks of two: the first is seen once and fades 14 times, the last one not at all. */
    private static void promise16_scores_lessByAnEighthDownwards() {
        Subject x = told("grow 30;");
        for (int v = 1; v <= 29; v += 2) {
            tellMore(x, v + " " + (v + 1) + ";" + v + " -" + (v + 1) + ";");
        }
        due("solve(200)", x.solve(200), 1);
        due("conflicts", x.count(10), 15);
        for (int block = 1; block <= 15; block++) {
            int score = Math.max(7, 14 - (15 - block));
            due("SCORE of " + (2 * block - 1), x.variable(2 * block - 1, 1), score);
            due("SCORE of " + 2 * block, x.variable(2 * block, 1), score);
        }
    }

    private static void promise16_scores_ofWhatIsSeenAgain() {
        Subject x = told("grow 5;1 2 3;1 2 -3;1 -2 4;1 -2 -4;");
        due("solve(9)", x.solve(9), 1);
        dueCounts(x, 2, 6, 2, 0);
        int[] scores = {30 - 3, 30 - 3, 14 - 1, 16 - 2, 0};
        for (int v = 1; v <= 5; v++) {
            due("SCORE of " + v, x.variable(v, 1), scores[v - 1]);
        }
    }

    private static void promise16_leap_to0BehindALongerOne() {
        // 2 1 is learnt at LEVEL 2, then 1 at LEVEL 1
        Subject x = told("grow 5;1 2 3;1 2 -3;1 -2 4;1 -2 -4;");
        due("solve(2)", x.solve(2), 2);
        dueClause(x, 4, 2, 1);
        dueClause(x, 5, 1);
        due("PHASE of 1", x.variable(1, 0), 1);
        due("solve(9)", x.solve(9), 1);
        due("model(1)", x.model(1), 1);
    }

    private static void promise16_leap_to0WithoutAnother() {
        // the decision on 1 leaves, too, and is made anew
        Subject x = told("grow 3;2 3;2 -3;");
        due("solve(9)", x.solve(9), 1);
        dueClause(x, 2, 2);
        dueCounts(x, 1, 4, 1, 0);
        due("at LEVEL 0 it follows", x.follows(NONE), 1);
    }

    private static void promise16_leap_toTheGreatestOfTheOthers() {
        // 1, 2, 3 are decided; 3 1 is learnt: 1 stays, 2 and then 4 are decided anew
        Subject x = told("grow 4;1 3 4;1 3 -4;");
        due("solve(9)", x.solve(9), 1);
        dueCounts(x, 1, 5, 1, 0);
        // 1, 2, 3, 4 are decided; 4 3 1 is learnt: 1, 2, 3 stay, and 5 is decided
        Subject y = told("grow 5;1 3 4 5;1 3 4 -5;");
        due("solve(9)", y.solve(9), 1);
        dueClause(y, 2, 4, 3, 1);
        dueCounts(y, 1, 5, 1, 0);
    }

    // ---- 16: starting anew

    private static int[] sumsOfTheRow() {
        int[] row = new int[127];
        int had = 0;
        for (int power = 1; had < 127; power *= 2) {
            System.arraycopy(row, 0, row, had, had);
            had = 2 * had + 1;
            row[had - 1] = power;
        }
        for (int i = 1; i < row.length; i++) {
            row[i] += row[i - 1];
        }
        return row;
    }

    private static int anewsDue(int unit, int conflicts) {
        int anews = 0;
        for (int sum : sumsOfTheRow()) {
            anews += unit > 0 && unit * sum <= conflicts ? 1 : 0;
        }
        return anews;
    }

    private static void dueAnews(int unit, int budget, int anews) {
        Subject x = rings();
        x.unit(unit);
        due("solve(" + budget + ")", x.solve(budget), 2);
        due("ANEW with " + unit + " in " + budget, x.count(13), anews);
    }

    private static void promise16_anew_unit0Never() {
        dueAnews(0, 200, 0);
        dueAnews(0, 1, 0);
    }

    private static void promise16_anew_unit1AllAlongTheRow() {
        int[] first = {1, 2, 4, 5, 6, 8, 12, 13, 14, 16, 17, 18, 20, 24, 32};
        int[] sums = sumsOfTheRow();
        for (int i = 0; i < first.length; i++) {
            due("sum " + i, sums[i], first[i]);
        }
        for (int budget = 1; budget <= 200; budget++) {
            dueAnews(1, budget, anewsDue(1, budget));
        }
        dueAnews(1, 200, 69);
    }

    private static void promise16_anew_unit50() {
        dueAnews(50, 49, 0);
        dueAnews(50, 50, 1);
        dueAnews(50, 99, 1);
        dueAnews(50, 100, 2);
        dueAnews(50, 199, 2);
        dueAnews(50, 200, 3);
        dueAnews(49, 49, 1);
    }

    private static void promise16_anew_ofThisSearchAlone() {
        Subject x = rings();
        x.unit(1);
        for (int i = 1; i <= 3; i++) {
            due("solve(3)", x.solve(3), 2);
            due("ANEW at 1 and 2 of each", x.count(13), 2 * i);
        }
        Subject one = rings();
        one.unit(1);
        for (int i = 1; i <= 5; i++) {
            due("solve(1)", one.solve(1), 2);
            due("ANEW at 1 of each", one.count(13), i);
        }
        Subject y = rings();
        y.unit(3);
        for (int i = 1; i <= 5; i++) {
            due("solve(2)", y.solve(2), 2);
            due("never 3 in one", y.count(13), 0);
        }
    }

    private static void promise16_anew_atLevel0Too() {
        Subject x = told("grow 2;1 2;1 -2;");
        x.unit(1);
        due("solve(9)", x.solve(9), 1);
        dueClause(x, 2, 1);
        dueCounts(x, 1, 2, 1, 1);
    }

    private static void promise16_anew_allAboveLevel0Leaves() {
        // 3 1 is learnt, LEAP to 1; then 1 leaves, too, and 1 2 4 are decided once more
        Subject x = told("grow 4;1 3 4;1 3 -4;");
        x.unit(1);
        due("solve(9)", x.solve(9), 1);
        dueCounts(x, 1, 6, 2, 1);
    }

    private static void promise16_anew_assumptionsAreTakenAgain() {
        Subject x = told("grow 4;1 3 4;1 3 -4;assume -1 -2;");
        x.unit(1);
        due("solve(9)", x.solve(9), 1);
        dueModel(x, 0, 0, 1, 1);
        dueCounts(x, 1, 2, 2, 1);
    }

    // ---- 17

    private static void promise17_noSuchWhat() {
        Subject x = rich();
        int[] none = {-1, -2, 15, 16, MAX, MIN};
        for (int n : none) {
            dueRefused(x, "count(" + n + ")", () -> x.count(n), NONE);
        }
    }

    private static void promise17_theGreatest() {
        Subject x = rings();
        tellMore(x, "assume 1 2 3 4 5 6 7 8;");
        x.free();
        x.unit(50);
        for (int v = 1; v <= 8; v++) {
            x.add(v);
        }
        due("solve", x.solve(200), 2);
        due("solve", x.solve(200), 3);
        for (int v = 1; v <= 8; v++) {
            x.assume(v);
        }
        put(x, times(400, " "));
        int[] most = {30, 400, 80, 320, 8, 8, 50, 320, 0, 400, 320};
        for (int what = 0; what < most.length; what++) {
            due("count(" + what + ")", x.count(what), most[what]);
        }
        due("count(14)", x.count(14), 3);
    }

    private static void promise17_3_withoutThoseThatAreGone() {
        Subject x = rings();
        due("solve", x.solve(20), 2);
        due("count(3)", x.count(3), 20);
        due("forget(1)", x.forget(1), 20);
        due("count(3)", x.count(3), 0);
        due("count(1)", x.count(1), 100);
        due("count(2)", x.count(2), 80);
        due("count(7)", x.count(7), 20);
    }

    private static void promise17_14_eachEnd() {
        Subject x = told(ALL_FOUR);
        due("ahead of any", x.count(14), NONE);
        x.solve(0);
        due("NONE was no SEARCH", x.count(14), NONE);
        x.solve(1);
        due("count(14)", x.count(14), 2);
        x.solve(201);
        due("NONE was no SEARCH", x.count(14), 2);
        x.solve(1);
        due("count(14)", x.count(14), 0);
        Subject y = new Subject();
        y.solve(1);
        due("count(14)", y.count(14), 1);
        Subject z = pigeonsWith(400);
        z.solve(1);
        due("count(14)", z.count(14), 3);
    }

    private static void promise17_10to13_ofAllSearchesTogether() {
        Subject x = told("grow 4;1 3 4;1 3 -4;");
        x.unit(1);
        x.solve(9);
        dueCounts(x, 1, 6, 2, 1);
        // 1 and 3 have 14, then 2: -1, 3 by what was learnt, 4 as its phase, 2
        x.solve(9);
        dueCounts(x, 1, 9, 3, 1);
        x.follows(NONE);
        dueCounts(x, 1, 9, 3, 1);
    }

    // ---- 18

    private static void promise18_noSuchClause() {
        Subject x = rich();
        int[] none = {-1, 4, 5, 399, 400, 401, MAX, MIN};
        int[] whats = {NONE, 0, -2, -3};
        for (int n : none) {
            for (int what : whats) {
                due("clause(" + n + ", " + what + ")", clauseOf(x, n, what), THREW);
            }
        }
        due("clause(3, NONE)", clauseOf(x, 3, NONE), 2);
        due("of a new object", clauseOf(new Subject(), 0, NONE), THREW);
    }

    private static void promise18_noSuchWhat() {
        Subject x = told("grow 8;1;1 2 3 4 5 6 7 8;");
        int[] none = {-4, -5, -100, 8, 9, 400, MAX, MIN};
        for (int what : none) {
            due("clause(1, " + what + ")", clauseOf(x, 1, what), THREW);
        }
        due("clause(1, 7)", clauseOf(x, 1, 7), 8);
        due("clause(1, NONE)", clauseOf(x, 1, NONE), 8);
        due("clause(0, 0)", clauseOf(x, 0, 0), 1);
        due("clause(0, 1): it is not the next one's", clauseOf(x, 0, 1), THREW);
    }

    private static void promise18_whetherLearntWhetherGone() {
        Subject x = told("grow 4;1 3 4;1 3 -4;");
        x.solve(9);
        due("told", clauseOf(x, 1, -2), 0);
        due("LEARNT", clauseOf(x, 2, -2), 1);
        due("not GONE", clauseOf(x, 2, -3), 0);
        x.forget(1);
        due("told ones are not", clauseOf(x, 1, -3), 0);
        due("GONE", clauseOf(x, 2, -3), 1);
        due("LEARNT", clauseOf(x, 2, -2), 1);
        dueClause(x, 2, 3, 1);
    }

    private static void promise18_the400th() {
        Subject x = pigeonsWith(400);
        due("clause(399, -2)", clauseOf(x, 399, -2), 1);
        due("clause(399, NONE)", clauseOf(x, 399, NONE), x.line(354, NONE));
        due("clause(400, NONE)", clauseOf(x, 400, NONE), THREW);
    }

    private static void promise18_oneThatIsBeingToldIsNone() {
        Subject x = told("grow 2;");
        x.add(1);
        due("clause(0, NONE)", clauseOf(x, 0, NONE), THREW);
    }

    // ---- 19

    private static void promise19_noneSuch() {
        Subject x = told("grow 9;assume 9-8 7-6 5-4 3;");
        int[] none = {7, 8, 9, 400, -1, -2, MAX, MIN};
        for (int n : none) {
            due("assumption(" + n + ")", x.assumption(n), 0);
        }
        due("assumption(6)", x.assumption(6), 3);
        x.assume(-1);
        due("assumption(7)", x.assumption(7), -1);
        due("assumption(8)", x.assumption(8), 0);
        x.free();
        due("assumption(0)", x.assumption(0), 0);
    }

    // ---- 20

    private static void promise20_aheadOfAny() {
        Subject x = told("grow 2;1;-1;");
        due("model(1)", x.model(1), NONE);
        due("solve", x.solve(1), 0);
        due("it did not end 1", x.model(1), NONE);
    }

    private static void promise20_noSuchVariable() {
        Subject x = told("grow 2;1;");
        x.solve(1);
        int[] none = {0, -1, -2, 3, 30, 31, 32, 33, 34, MAX, MIN};
        for (int n : none) {
            due("model(" + n + ")", x.model(n), NONE);
        }
        dueModel(x, 1, 0);
    }

    private static void promise20_noSuchVariableThen() {
        Subject x = told("grow 2;");
        x.solve(1);
        x.grow(1);
        due("model(3)", x.model(3), NONE);
        x.solve(1);
        due("model(3)", x.model(3), 0);
        Subject y = new Subject();
        y.solve(1);
        y.grow(1);
        due("model(1)", y.model(1), NONE);
    }

    private static void promise20_theLatestThatEnded1() {
        Subject x = told("grow 2;1 2;");
        x.solve(1);
        tellMore(x, "assume -1 -2;");
        due("solve", x.solve(1), 0);
        dueModel(x, 0, 1);
        tellMore(x, "assume;1 -2;-1 2;-1 -2;phase -1 -2;");
        due("solve", x.solve(1), 2);
        dueModel(x, 0, 1);
        due("solve", x.solve(1), 0);
        dueModel(x, 0, 1);
        x.phase(-2);
        dueModel(x, 0, 1);
    }

    // ---- 21

    private static void promise21_none() {
        Subject x = told("grow 4;1 3 4;1 3 -4;assume -1 -3;");
        due("ahead of any", x.core(), NONE);
        due("solve", x.solve(1), 2);
        due("it ended 2", x.core(), NONE);
        due("solve", x.solve(1), 0);
        due("core()", x.core(), 3);
        x.free();
        due("solve", x.solve(1), 1);
        due("it ended 1", x.core(), NONE);
        Subject y = pigeonsWith(400);
        due("solve", y.solve(1), 3);
        due("it ended 3", y.core(), NONE);
    }

    private static void promise21_allEight() {
        Subject x = told("grow 9;-1 -2 -3 -4 -5 -6 -7 -8;assume 1 2 3 4 5 6 7 8;");
        due("solve", x.solve(1), 0);
        due("core()", x.core(), 255);
    }

    private static void promise21_theFirstAndTheLast() {
        Subject x = told("grow 9;-1 -9;assume 1 2 3 4 5 6 7 9;");
        due("solve", x.solve(1), 0);
        due("core()", x.core(), 1 | 128);
    }

    private static void promise21_falseAtLevel0() {
        Subject x = told("grow 9;-8;assume 1 2 3 4 5 6 7 8;");
        due("solve", x.solve(1), 0);
        due("the 8th alone", x.core(), 128);
        Subject y = told("grow 2;-1 2;1;assume -2;");
        due("solve", y.solve(1), 0);
        due("what came at LEVEL 0 is none of it", y.core(), 1);
    }

    private static void promise21_withAll30OnTheTrail() {
        Subject x = told("grow 30;assume 1;");
        for (int v = 1; v <= 29; v++) {
            tellMore(x, "-" + v + " " + (v + 1) + ";");
        }
        x.assume(-30);
        due("solve", x.solve(1), 0);
        due("draws", x.count(12), 29);
        due("core()", x.core(), 3);
    }

    private static void promise21_thoseThatWereDrawnAreNoneOfIt() {
        // 2 comes by 1 ahead of being taken; 3 is FALSE by 2: the CORE is 1 and 3
        Subject x = told("grow 3;-1 2;-2 -3;assume 1 2 3;");
        due("solve", x.solve(1), 0);
        due("core()", x.core(), 5);
    }

    private static void promise21_byTheirPlacesThen() {
        Subject x = told("grow 4;-1 2;assume 4 1 -2;");
        due("solve", x.solve(1), 0);
        due("core()", x.core(), 6);
        tellMore(x, "assume 1;");
        due("core()", x.core(), 6);
        x.free();
        due("core()", x.core(), 6);
        x.solve(0);
        due("core()", x.core(), 6);
    }

    private static void promise21_0IfItWasRefuted() {
        Subject x = told("grow 3;-1;assume 1;");
        due("solve", x.solve(1), 0);
        due("core()", x.core(), 1);
        tellMore(x, "1;");
        due("core() of the latest still", x.core(), 1);
        due("solve", x.solve(1), 0);
        due("core()", x.core(), 0);
        due("solve", x.solve(1), 0);
        due("core()", x.core(), 0);
    }

    // ---- 22

    private static void promise22_noSuchVariable() {
        Subject x = rich();
        int[] none = {0, -1, -9, 10, 30, 31, 33, MAX, MIN};
        for (int n : none) {
            for (int what = 0; what <= 2; what++) {
                due("variable(" + n + ", " + what + ")", x.variable(n, what), NONE);
            }
        }
        due("variable(9, 0)", x.variable(9, 0), 0);
        due("variable(30, 0)", told("grow 30;").variable(30, 0), 0);
        due("variable(30, 2)", told("grow 30;30;").variable(30, 2), 1);
    }

    private static void promise22_anotherWhat() {
        Subject x = rich();
        int[] none = {-1, -2, 3, 4, MAX, MIN};
        for (int what : none) {
            due("variable(1, " + what + ")", x.variable(1, what), NONE);
        }
    }

    private static void promise22_atFirst() {
        Subject x = told("grow 30;");
        for (int v = 1; v <= 30; v++) {
            for (int what = 0; what <= 2; what++) {
                due("variable(" + v + ", " + what + ")", x.variable(v, what), 0);
            }
        }
    }

    private static void promise22_2_eitherWayAndNotGone() {
        Subject x = told("grow 4;1 3 4;1 3 -4;");
        due("of 4", x.variable(4, 2), 2);
        due("of 2", x.variable(2, 2), 0);
        x.solve(9);
        due("of 3", x.variable(3, 2), 3);
        x.forget(2);
        due("of 3", x.variable(3, 2), 3);
        x.forget(1);
        due("of 3", x.variable(3, 2), 2);
        x.add(4);
        due("one being told is none yet", x.variable(4, 2), 2);
        due("of all 80", fullOfTold().variable(1, 2), 80);
    }

    // ---- 23

    private static void promise23_nothingFollows() {
        Subject x = told("grow 3;1 2;assume -1;");
        due("follows(NONE)", x.follows(NONE), 0);
        due("follows(0)", x.follows(0), 0);
        due("of a new object", new Subject().follows(NONE), 0);
    }

    private static void promise23_all30Follow() {
        Subject x = told("grow 30;");
        for (int v = 1; v <= 29; v++) {
            tellMore(x, v + " " + (v + 1) + ";-" + v + "-" + (v + 1) + ";");
        }
        tellMore(x, "30;");
        due("follows(NONE)", x.follows(NONE), 30);
        for (int i = 0; i < 30; i++) {
            due("follows(" + i + ")", x.follows(i), i % 2 == 0 ? 30 - i : i - 30);
        }
        due("follows(30)", x.follows(30), 0);
    }

    private static void promise23_noneSuch() {
        Subject x = told("grow 3;2;-2 -3;");
        int[] none = {2, 3, 29, 30, 31, 400, -2, -3, MAX, MIN};
        for (int n : none) {
            dueRefused(x, "follows(" + n + ")", () -> x.follows(n), 0);
        }
        due("follows(1)", x.follows(1), -3);
    }

    private static void promise23_theLeastNumberComesFirst() {
        Subject x = told("grow 4;-4 3;4;2;-2 1;");
        int[] order = {4, 3, 2, 1};
        for (int i = 0; i < 4; i++) {
            due("follows(" + i + ")", x.follows(i), order[i]);
        }
    }

    private static void promise23_100BehindAllThat() {
        Subject x = told("grow 3;1;-1;2;-2 3;");
        due("follows(NONE)", x.follows(NONE), 100);
        int[] order = {1, 2, 3, 0};
        for (int i = 0; i < 4; i++) {
            due("follows(" + i + ")", x.follows(i), order[i]);
        }
        due("not REFUTED by that", x.count(8), 0);
        x.solve(1);
        due("REFUTED", x.count(8), 1);
        due("follows(NONE)", x.follows(NONE), 100);
        due("follows(2)", x.follows(2), 3);
        due("what does not follow by b) alone", told(ALL_FOUR).follows(NONE), 0);
    }

    private static void promise23_learntOnesTooGoneOnesNot() {
        Subject x = told("grow 4;1 3 4;1 3 -4;");
        x.solve(9);
        tellMore(x, "-1;");
        due("follows(NONE)", x.follows(NONE), 2);
        due("follows(0): LEARNT as 2", x.follows(0), -1);
        due("follows(1)", x.follows(1), 3);
        x.forget(1);
        due("follows(NONE)", x.follows(NONE), 1);
    }

    private static void promise23_askingChangesNothing() {
        Subject x = rich();
        for (int i = -2; i <= 30; i++) {
            int at = i;
            String before = pictureOf(x);
            x.follows(at);
            dueSame("follows(" + at + ")", pictureOf(x), before);
        }
    }

    public static void main(String[] args) {
        runAll(BoundarySearchTest.class);
    }
}
