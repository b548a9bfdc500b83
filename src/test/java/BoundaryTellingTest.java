/** The boundary cases of promises 1 to 3 and 6 to 15: what is told by calls, kept and gone back to. */
public final class BoundaryTellingTest extends Bench {
    private static final int[] NEVER = {0, MAX, MIN, MIN + 1, MAX - 1};

    // ---- the object

    private static void terms_the512thCallStillAnswers() {
        Subject x = new Subject();
        due("call 1", x.grow(30), 30);
        for (int i = 2; i <= 511; i++) {
            due("call " + i, x.phase(i % 2 == 0 ? 30 : -30), true);
        }
        due("call 512", x.solve(200), 1);
    }

    private static void terms_512DearCallsEnd() {
        Subject x = rings();
        while (x.callsLeft() > 1) {
            x.solve(200);
        }
        due("CLAUSES", x.count(1), 400);
    }

    private static void terms_oneObjectKnowsNothingOfAnother() {
        Subject x = rich();
        Subject y = new Subject();
        String before = askedOf(x);
        y.grow(3);
        y.add(1);
        y.close();
        y.solve(1);
        put(y, "grow");
        dueSame("the first one", askedOf(x), before);
        due("nothing is kept in the second", y.back(0), false);
        due("what is kept in the first", x.back(0), true);
    }

    /** Some of what can be asked, by calls of this very object. */
    private static String askedOf(Subject x) {
        StringBuilder b = new StringBuilder();
        for (int what = 0; what <= 14; what++) {
            b.append(' ').append(x.count(what));
        }
        b.append("; ").append(x.fault()).append(' ').append(x.closed()).append(' ').append(x.core());
        for (int v = 1; v <= 9; v++) {
            b.append("; ").append(x.model(v)).append(' ').append(x.follows(v - 1));
            for (int what = 0; what <= 2; what++) {
                b.append(' ').append(x.variable(v, what));
            }
        }
        return b.append("; ").append(x.models()).append(' ').append(clauseOf(x, 0, 0)).toString();
    }

    private static void terms_noArgumentMakesACallThrow() {
        int[] odd = {MIN, MIN + 1, -401, -101, -100, -31, -30, -9, -4, -3, -2, -1, 0, 1, 7, 8, 9, 12, 13, 14, 15,
            29, 30, 31, 32, 50, 51, 200, 201, 355, 399, 400, 401, 512, MAX - 1, MAX};
        for (int n : odd) {
            Subject[] all = {new Subject(), told("grow 30;"), rich(), fullOfTold(), pigeonsWith(400)};
            for (Subject x : all) {
                callAllWith(x, n, odd);
            }
        }
    }

    private static void callAllWith(Subject x, int n, int[] odd) {
        x.feed(n, n, n, n, n);
        x.end(n);
        x.tell();
        x.feed(n, n, n, n, n);
        x.refute();
        x.add(n);
        x.assume(n);
        x.phase(n);
        x.unit(n);
        x.forget(n);
        x.keep(n);
        x.back(n);
        x.solve(n);
        x.count(n);
        x.assumption(n);
        x.model(n);
        x.follows(n);
        for (int other : odd) {
            clauseOf(x, n, other);
            x.variable(n, other);
            x.line(n, other);
        }
        x.grow(n);
    }

    // ---- 1

    private static void promise01_thereAreNoVariables() {
        Subject x = new Subject();
        due("V", x.count(0), 0);
        due("add(1)", x.add(1), NONE);
        due("add(-1)", x.add(-1), NONE);
        due("assume(1)", x.assume(1), NONE);
        due("phase(1)", x.phase(1), false);
        due("variable(1, 0)", x.variable(1, 0), NONE);
        due("variable(0, 0)", x.variable(0, 0), NONE);
        due("model(1)", x.model(1), NONE);
    }

    private static void promise01_thereAreNoClauses() {
        Subject x = new Subject();
        due("clause(0, NONE)", clauseOf(x, 0, NONE), THREW);
        for (int what = 1; what <= 13; what++) {
            due("count(" + what + ")", x.count(what), 0);
        }
        due("follows(NONE)", x.follows(NONE), 0);
        due("follows(0)", x.follows(0), 0);
    }

    private static void promise01_unitIs0() {
        Subject x = new Subject();
        due("count(6)", x.count(6), 0);
        due("unit(0)", x.unit(0), false);
    }

    private static void promise01_nothingWasYet() {
        Subject x = new Subject();
        due("count(14)", x.count(14), NONE);
        due("core()", x.core(), NONE);
        due("closed()", x.closed(), NONE);
        due("fault()", x.fault(), 0);
        due("line(0, NONE)", x.line(0, NONE), -100);
        due("proof()", x.proof(), NONE);
        due("back(0)", x.back(0), false);
        due("back(1)", x.back(1), false);
        due("free()", x.free(), 0);
        due("close()", x.close(), NONE);
        due("forget(1)", x.forget(1), 0);
    }

    // ---- 2

    private static void promise02_eachByteComesAtItsPlace() {
        for (int place = 0; place < 20; place++) {
            int[] n = {0x20202020, 0x20202020, 0x20202020, 0x20202020, 0x20202020};
            n[place / 4] ^= (' ' ^ 'X') << (24 - 8 * (place % 4));
            Subject x = new Subject();
            due("feed", x.feed(n[0], n[1], n[2], n[3], n[4]), 20);
            due("tell()", x.tell(), NONE);
            due("X stands at", x.fault(), 1 + 8 * place);
        }
    }

    private static void promise02_aByteAbove127IsOneByte() {
        Subject x = new Subject();
        due("feed", x.feed(0x202020FF, 0x20202020, 0x80202020, 0x20202020, 0x20202020), 20);
        due("tell()", x.tell(), NONE);
        due("fault()", x.fault(), 1 + 8 * 3);
        due("feed", x.feed(0x20202020, 0x20202020, 0x80202020, 0x20202020, 0x20202020), 20);
        due("tell()", x.tell(), NONE);
        due("fault()", x.fault(), 1 + 8 * 8);
    }

    private static void promise02_numbersBelow0AreBytesToo() {
        Subject x = new Subject();
        due("feed", x.feed(-1, MIN, MAX, 0, -1), 20);
        due("tell()", x.tell(), NONE);
        due("fault()", x.fault(), 1);
    }

    private static void promise02_twentyComeBehindWhatIsThere() {
        Subject x = new Subject();
        for (int i = 1; i <= 20; i++) {
            due("feed " + i, x.feed(0, 0, 0, 0, 0), 20 * i);
            due("count(9)", x.count(9), 20 * i);
        }
    }

    private static void promise02_upTo400TheyCome() {
        Subject x = new Subject();
        put(x, times(380, " "));
        due("count(9)", x.count(9), 380);
        due("feed at 380", x.feed(0x67726F77, 0x20333B20, 0x20202020, 0x20202020, 0x20202020), 400);
        due("tell()", x.tell(), 1);
        due("V", x.count(0), 3);
    }

    private static void promise02_above400NoneCome() {
        for (int had = 381; had <= 400; had++) {
            Subject x = new Subject();
            put(x, "grow 3;" + times(had - 8, " ") + "\n");
            dueRefused(x, "feed at " + had, () -> x.feed(MAX, MAX, MAX, MAX, MAX), NONE);
            due("count(9)", x.count(9), had);
            due("tell()", x.tell(), 1);
        }
    }

    // ---- 3

    private static void promise03_ofAnEmptyTape() {
        Subject x = new Subject();
        due("end(0)", x.end(0), true);
        due("end(1)", x.end(1), false);
    }

    private static void promise03_asManyAsThereAre() {
        Subject x = new Subject();
        x.feed(0, 0, 0, 0, 0);
        due("end(20)", x.end(20), true);
        due("count(9)", x.count(9), 20);
        due("end(19)", x.end(19), true);
        due("count(9)", x.count(9), 19);
        due("end(19)", x.end(19), true);
        due("end(0)", x.end(0), true);
        due("count(9)", x.count(9), 0);
        due("tell()", x.tell(), 0);
    }

    private static void promise03_ofAFullTape() {
        Subject x = new Subject();
        put(x, times(400, ";"));
        due("end(401)", x.end(401), false);
        due("end(400)", x.end(400), true);
        due("count(9)", x.count(9), 400);
    }

    private static void promise03_notSoManyIsFalse() {
        Subject x = rich();
        int[] none = {4, 20, 400, 401, MAX};
        for (int n : none) {
            dueFalse(x, "end(" + n + ")", () -> x.end(n));
        }
        due("count(9)", x.count(9), 3);
    }

    private static void promise03_below0IsFalse() {
        Subject x = rich();
        int[] none = {-1, -2, -3, MIN};
        for (int n : none) {
            dueFalse(x, "end(" + n + ")", () -> x.end(n));
        }
        due("count(9)", x.count(9), 3);
    }

    private static void promise03_whatWasCutOffIsGone() {
        Subject x = new Subject();
        put(x, "grow 12;grow 9;");
        due("end(6)", x.end(6), true);
        due("end(7)", x.end(7), false);
        dueTold(x, ";", 1);
        due("V", x.count(0), 1);
        put(x, "1;grows");
        due("end(6)", x.end(6), true);
        due("tell()", x.tell(), NONE);
        due("the word ends with the TAPE", x.fault(), 1 + 8 * 6);
        put(x, "1;123");
        due("end(3)", x.end(3), true);
        due("tell()", x.tell(), NONE);
        due("the INT ends with the TAPE", x.fault(), 1 + 8 * 3);
    }

    // ---- 6

    private static void promise06_from1To30() {
        for (int n = 1; n <= 30; n++) {
            due("grow(" + n + ")", new Subject().grow(n), n);
        }
    }

    private static void promise06_noSuchN() {
        Subject x = rich();
        int[] none = {0, -1, -9, 31, 32, MAX, MIN, MAX - 8};
        for (int n : none) {
            dueRefused(x, "grow(" + n + ")", () -> x.grow(n), NONE);
        }
        due("grow(31) of a new one", new Subject().grow(31), NONE);
        due("grow(0) of a new one", new Subject().grow(0), NONE);
    }

    private static void promise06_above30() {
        Subject x = told("grow 28;");
        dueRefused(x, "grow(3)", () -> x.grow(3), NONE);
        due("grow(1)", x.grow(1), 29);
        dueRefused(x, "grow(2)", () -> x.grow(2), NONE);
        due("grow(1)", x.grow(1), 30);
        dueRefused(x, "grow(1)", () -> x.grow(1), NONE);
        dueRefused(x, "grow(30)", () -> x.grow(30), NONE);
        due("add(30)", x.add(30), 1);
        due("add(31)", x.add(31), NONE);
    }

    private static void promise06_newOnesArePlain() {
        Subject x = told("grow 2;phase 1 2;");
        x.keep(0);
        tellMore(x, "grow 2;1 3 4;1 3 -4;phase 3 4 -1;");
        due("solve", x.solve(9), 1);
        x.back(0);
        due("grow(2)", x.grow(2), 4);
        for (int v = 3; v <= 4; v++) {
            due("PHASE of " + v, x.variable(v, 0), 0);
            due("SCORE of " + v, x.variable(v, 1), 0);
            due("CLAUSES with " + v, x.variable(v, 2), 0);
        }
    }

    // ---- 7

    private static void promise07_the8thAndTheNinth() {
        Subject x = told("grow 30;");
        for (int i = 1; i <= 8; i++) {
            due("add " + i, x.add(-30 + i), i);
        }
        dueRefused(x, "add(1)", () -> x.add(1), NONE);
        dueRefused(x, "add(30)", () -> x.add(30), NONE);
        x.close();
        dueClause(x, 0, -29, -28, -27, -26, -25, -24, -23, -22);
    }

    private static void promise07_noSuchVariable() {
        Subject x = rich();
        int[] none = {10, -10, 30, -30, 31, -31};
        for (int n : none) {
            dueRefused(x, "add(" + n + ")", () -> x.add(n), NONE);
        }
        for (int n : NEVER) {
            dueRefused(x, "add(" + n + ")", () -> x.add(n), NONE);
        }
        due("add(9)", x.add(9), 3);
    }

    private static void promise07_theLastVariableEitherWay() {
        due("add(30)", told("grow 30;").add(30), 1);
        due("add(-30)", told("grow 30;").add(-30), 1);
        due("add(1)", told("grow 1;").add(1), 1);
        due("add(-1)", told("grow 1;").add(-1), 1);
    }

    private static void promise07_itsVariableIsThere() {
        Subject x = rich();
        int[] none = {2, -2, 5, -5};
        for (int n : none) {
            dueRefused(x, "add(" + n + ")", () -> x.add(n), NONE);
        }
        due("add(3)", x.add(3), 3);
        x.close();
        dueClause(x, 4, 2, -5, 3);
        due("it is free again then", x.add(2), 1);
    }

    // ---- 8

    private static void promise08_noLiteral() {
        Subject x = told("grow 3;1;");
        dueRefused(x, "close()", x::close, NONE);
        x.add(2);
        due("close()", x.close(), 1);
        dueRefused(x, "close() again", x::close, NONE);
    }

    private static void promise08_oneLiteralAndEight() {
        Subject x = told("grow 8;");
        x.add(-8);
        due("close() of one", x.close(), 0);
        due("none is being told", x.count(5), 0);
        for (int v = 1; v <= 8; v++) {
            x.add(v);
        }
        due("close() of eight", x.close(), 1);
        dueClause(x, 0, -8);
        dueClause(x, 1, 1, 2, 3, 4, 5, 6, 7, 8);
    }

    private static void promise08_the80thAndThe81st() {
        Subject x = told("grow 9;");
        dueTold(x, times(79, "1;"), 79);
        x.add(2);
        due("the 80th", x.close(), 79);
        x.add(3);
        x.add(-4);
        dueRefused(x, "the 81st", x::close, NONE);
        due("count(5)", x.count(5), 2);
        due("add(4)", x.add(4), NONE);
        due("add(-3)", x.add(-3), NONE);
        due("add(5)", x.add(5), 3);
        due("count(2)", x.count(2), 80);
    }

    private static void promise08_learntOnesAreNoToldOnes() {
        Subject x = told("grow 9;1 2;1 -2;" + times(77, "3;"));
        due("solve", x.solve(9), 1);
        due("CLAUSES", x.count(1), 80);
        x.add(4);
        due("the 80th told one", x.close(), 80);
        x.add(5);
        dueRefused(x, "the 81st", x::close, NONE);
    }

    private static void promise08_the400thAndThe401st() {
        Subject x = pigeonsWith(399);
        x.add(-2);
        x.add(1);
        due("the 400th", x.close(), 399);
        dueClause(x, 399, -2, 1);
        x.add(3);
        dueRefused(x, "the 401st", x::close, NONE);
        due("count(5)", x.count(5), 1);
        due("told ones", x.count(2), 46);
    }

    private static void promise08_oneThatIsGoneStillCounts() {
        Subject x = pigeonsWith(400);
        due("not GONE", x.count(3) < 300, true);
        x.add(1);
        dueRefused(x, "close()", x::close, NONE);
    }

    // ---- 9

    private static void promise09_the8thAndTheNinth() {
        Subject x = told("grow 30;");
        for (int i = 1; i <= 8; i++) {
            due("assume " + i, x.assume(i - 31), i);
        }
        dueRefused(x, "assume(1)", () -> x.assume(1), NONE);
        due("the first", x.assumption(0), -30);
        due("the 8th", x.assumption(7), -23);
    }

    private static void promise09_noSuchVariable() {
        Subject x = rich();
        int[] none = {10, -10, 30, -30, 31, -31};
        for (int n : none) {
            dueRefused(x, "assume(" + n + ")", () -> x.assume(n), NONE);
        }
        for (int n : NEVER) {
            dueRefused(x, "assume(" + n + ")", () -> x.assume(n), NONE);
        }
        due("assume(9)", x.assume(9), 3);
    }

    private static void promise09_itsVariableIsThere() {
        Subject x = rich();
        int[] none = {7, -7, 8, -8};
        for (int n : none) {
            dueRefused(x, "assume(" + n + ")", () -> x.assume(n), NONE);
        }
        due("one of the CLAUSE that is being told", x.assume(2), 3);
        due("a ninth VARIABLE", x.assume(-9), 4);
    }

    // ---- 10

    private static void promise10_ofNone() {
        Subject x = told("grow 3;1;");
        dueRefused(x, "free()", x::free, 0);
    }

    private static void promise10_ofAllEight() {
        Subject x = told("grow 9;assume 1 2 3 4 5 6 7 8;");
        due("free()", x.free(), 8);
        due("assumption(0)", x.assumption(0), 0);
        due("free() again", x.free(), 0);
        due("assume(-1)", x.assume(-1), 1);
        due("free()", x.free(), 1);
    }

    // ---- 11

    private static void promise11_noSuchVariable() {
        Subject x = rich();
        int[] none = {10, -10, 30, -30, 31, -31};
        for (int n : none) {
            dueFalse(x, "phase(" + n + ")", () -> x.phase(n));
        }
        for (int n : NEVER) {
            dueFalse(x, "phase(" + n + ")", () -> x.phase(n));
        }
    }

    private static void promise11_itIsSo() {
        Subject x = told("grow 30;");
        dueFalse(x, "phase(-30)", () -> x.phase(-30));
        due("phase(30)", x.phase(30), true);
        due("PHASE", x.variable(30, 0), 1);
        dueFalse(x, "phase(30)", () -> x.phase(30));
        due("phase(-30)", x.phase(-30), true);
        due("PHASE", x.variable(30, 0), 0);
        dueFalse(x, "phase(-30)", () -> x.phase(-30));
        due("phase(1)", x.phase(1), true);
        due("phase(-1)", x.phase(-1), true);
    }

    // ---- 12

    private static void promise12_from0To50() {
        Subject x = new Subject();
        for (int n = 1; n <= 50; n++) {
            due("unit(" + n + ")", x.unit(n), true);
            due("count(6)", x.count(6), n);
        }
        due("unit(0)", x.unit(0), true);
        due("count(6)", x.count(6), 0);
    }

    private static void promise12_noSuchN() {
        Subject x = rich();
        int[] none = {-1, 51, -7, MAX, MIN};
        for (int n : none) {
            dueFalse(x, "unit(" + n + ")", () -> x.unit(n));
        }
        due("count(6)", x.count(6), 7);
    }

    private static void promise12_itIsSo() {
        Subject x = rich();
        dueFalse(x, "unit(7)", () -> x.unit(7));
        Subject y = new Subject();
        dueFalse(y, "unit(0)", () -> y.unit(0));
        y.unit(50);
        dueFalse(y, "unit(50)", () -> y.unit(50));
    }

    // ---- 13

    /** One clause of 26 literals is learnt: all of 26 decisions, by 4 that are drawn. */
    private static Subject withALongOne() {
        Subject x = told("grow 30;1 2 3 4 5 6 26 27;7 8 9 10 11 12 -27 28;"
            + "13 14 15 16 17 18 -28 29;19 20 21 22 23 24 -29 30;25 26 -30;");
        due("solve(1)", x.solve(1), 2);
        return x;
    }

    private static void promise13_noSuchN() {
        Subject x = withALongOne();
        int[] none = {0, -1, 31, MAX, MIN};
        for (int n : none) {
            dueRefused(x, "forget(" + n + ")", () -> x.forget(n), NONE);
        }
    }

    private static void promise13_asManyAsNStay() {
        Subject x = withALongOne();
        due("its length", clauseOf(x, 5, NONE), 26);
        for (int n = 30; n >= 26; n--) {
            int most = n;
            dueRefused(x, "forget(" + n + ")", () -> x.forget(most), 0);
        }
        due("forget(25)", x.forget(25), 1);
        due("GONE", clauseOf(x, 5, -3), 1);
        dueRefused(x, "forget(25) again", () -> x.forget(25), 0);
        dueRefused(x, "forget(1)", () -> x.forget(1), 0);
    }

    private static void promise13_oneOfOneLiteralStays() {
        Subject x = told("grow 2;1 2;1 -2;");
        due("solve", x.solve(9), 1);
        dueClause(x, 2, 1);
        dueRefused(x, "forget(1)", () -> x.forget(1), 0);
    }

    private static void promise13_toldOnesStay() {
        Subject x = told("grow 8;1 2 3 4 5 6 7 8;1 2;");
        dueRefused(x, "forget(1)", () -> x.forget(1), 0);
        due("GONE", clauseOf(x, 0, -3), 0);
    }

    private static void promise13_theNumberAndTheLineStay() {
        Subject x = withALongOne();
        int[] literals = new int[26];
        for (int i = 0; i < 26; i++) {
            literals[i] = 26 - i;
        }
        x.forget(1);
        dueClause(x, 5, literals);
        dueLine(x, 0, literals);
        due("still LEARNT", clauseOf(x, 5, -2), 1);
        due("CLAUSES", x.count(1), 6);
        due("not GONE", x.count(3), 0);
        x.add(1);
        due("the next number", x.close(), 6);
    }

    private static void promise13_oneThatIsGoneDrawsNothing() {
        Subject x = told("grow 4;1 3 4;1 3 -4;");
        due("solve", x.solve(9), 1);
        dueClause(x, 2, 3, 1);
        tellMore(x, "-1;");
        due("follows", x.follows(NONE), 2);
        due("forget(1)", x.forget(1), 1);
        due("follows", x.follows(NONE), 1);
    }

    private static void promise13_oneThatIsGoneIsNoConflict() {
        // learnt: 3 1; then, all of -1 -3 assumed, only clauses of 4 are left to clash
        Subject x = told("grow 4;1 3 4;1 3 -4;");
        due("solve", x.solve(9), 1);
        tellMore(x, "assume -1 -3;");
        x.keep(0);
        due("solve by it", x.solve(1), 0);
        due("core", x.core(), 3);
        x.back(0);
        x.forget(1);
        due("solve without it", x.solve(1), 2);
        dueClause(x, 3, 3, 1);
    }

    // ---- 14, 15

    private static void promise14_noSuchSlot() {
        Subject x = rich();
        int[] none = {-1, 2, 3, MAX, MIN};
        for (int n : none) {
            dueFalse(x, "keep(" + n + ")", () -> x.keep(n));
        }
    }

    private static void promise14_bothSlotsEachTheirOwn() {
        Subject x = new Subject();
        due("keep(0)", x.keep(0), true);
        x.grow(1);
        due("keep(1)", x.keep(1), true);
        x.grow(1);
        due("back(0)", x.back(0), true);
        due("V", x.count(0), 0);
        due("back(1)", x.back(1), true);
        due("V", x.count(0), 1);
    }

    private static void promise14_keptAgainIsKeptAnew() {
        Subject x = new Subject();
        x.keep(1);
        x.grow(5);
        due("keep(1)", x.keep(1), true);
        x.grow(5);
        due("back(1)", x.back(1), true);
        due("V", x.count(0), 5);
    }

    private static void promise14_butTheTape() {
        Subject x = new Subject();
        put(x, "grow 5;");
        x.keep(0);
        x.end(6);
        due("back(0)", x.back(0), true);
        due("count(9)", x.count(9), 6);
        due("end(7)", x.end(7), false);
    }

    private static void promise14_butTheFault() {
        Subject x = new Subject();
        x.keep(0);
        dueFault(x, "0;", 2, 0);
        x.back(0);
        due("fault()", x.fault(), 2);
        x.keep(0);
        due("tell()", x.tell(), 0);
        x.back(0);
        due("fault()", x.fault(), 0);
    }

    private static void promise14_butWhatIsKept() {
        Subject x = new Subject();
        x.keep(0);
        x.grow(3);
        x.keep(1);
        due("back(0)", x.back(0), true);
        due("what was kept behind that stays", x.back(1), true);
        due("V", x.count(0), 3);
    }

    private static void promise14_keepingChangesNothing() {
        Subject x = rich();
        dueRefused(x, "keep(0)", () -> x.keep(0) ? 1 : 0, 1);
        dueRefused(x, "keep(1)", () -> x.keep(1) ? 1 : 0, 1);
        dueRefused(x, "back(1)", () -> x.back(1) ? 1 : 0, 1);
    }

    private static void promise15_noSuchSlot() {
        Subject x = rich();
        int[] none = {-1, 2, 3, MAX, MIN};
        for (int n : none) {
            dueFalse(x, "back(" + n + ")", () -> x.back(n));
        }
    }

    private static void promise15_nothingIsKept() {
        Subject x = rich();
        dueFalse(x, "back(1)", () -> x.back(1));
        Subject y = new Subject();
        y.keep(1);
        dueFalse(y, "back(0)", () -> y.back(0));
    }

    private static void promise15_allIsAsWasKept() {
        Subject x = rich();
        x.end(0);
        x.keep(1);
        String before = pictureOf(x);
        changeAll(x);
        due("back(1)", x.back(1), true);
        dueSame("all", pictureOf(x), before);
        due("the CLAUSE that is being told", x.close(), 4);
        dueClause(x, 4, 2, -5);
    }

    /** Leaves FAULT and TAPE as it found them, for they are not kept. */
    private static void changeAll(Subject x) {
        x.grow(4);
        x.add(9);
        x.close();
        x.add(3);
        tellMore(x, "assume;phase -5 9;10 11;10 -11;");
        x.unit(1);
        due("solve", x.solve(9), 1);
        due("a MODEL of 13", x.model(13) != NONE, true);
        due("ANEW", x.count(13) > 0, true);
        tellMore(x, "-10 12;-10 -12;assume 1;");
        due("solve", x.solve(9), 0);
        due("REFUTED", x.count(8), 1);
        dueLog(x, "10;;", 2);
        x.forget(1);
        put(x, " 0;");
        x.tell();
    }

    private static void promise15_whatIsKeptStays() {
        Subject x = rich();
        x.end(0);
        x.keep(0);
        String before = pictureOf(x);
        for (int i = 0; i < 3; i++) {
            changeAll(x);
            due("back(0)", x.back(0), true);
            dueSame("all", pictureOf(x), before);
        }
    }

    private static void promise15_fromAFullOneToAnEmptyOneAndAgain() {
        Subject x = new Subject();
        x.keep(0);
        String empty = pictureOf(x);
        tellMore(x, "grow 30;" + times(78, "30;"));
        x.add(-30);
        x.close();
        x.add(29);
        x.close();
        for (int v = 1; v <= 8; v++) {
            x.add(v);
            x.assume(-v);
        }
        x.solve(1);
        x.keep(1);
        String full = pictureOf(x);
        x.back(0);
        dueSame("the empty one", pictureOf(x), empty);
        x.back(1);
        dueSame("the full one", pictureOf(x), full);
    }

    private static void promise15_numbersAreUsedAgain() {
        Subject x = told("grow 4;");
        x.keep(0);
        tellMore(x, "1 2;-3 4;");
        x.back(0);
        dueTold(x, "-1 3;1;", 2);
        dueClause(x, 0, -1, 3);
        due("CLAUSES with 2", x.variable(2, 2), 0);
        due("CLAUSES with 4", x.variable(4, 2), 0);
        due("models()", x.models(), 4);
        due("follows(0)", x.follows(0), 1);
        due("follows(1)", x.follows(1), 3);
    }

    private static void promise15_whereOtherClausesHadTheNumbers() {
        Subject x = told("grow 4;");
        x.keep(0);
        tellMore(x, "1;-2;");
        x.keep(1);
        String before = pictureOf(x);
        x.back(0);
        tellMore(x, "-1 -2 -3;4;3 -4;");
        x.back(1);
        dueSame("all", pictureOf(x), before);
        dueClause(x, 0, 1);
        dueClause(x, 1, -2);
        due("follows(0)", x.follows(0), 1);
        due("follows(1)", x.follows(1), -2);
        due("models()", x.models(), 4);
    }

    private static void promise15_whatWasGoneSinceIsThereAgain() {
        Subject x = told("grow 4;1 3 4;1 3 -4;");
        due("solve", x.solve(9), 1);
        x.keep(0);
        due("forget(1)", x.forget(1), 1);
        x.keep(1);
        x.back(0);
        due("GONE", clauseOf(x, 2, -3), 0);
        due("not GONE", x.count(3), 1);
        x.back(1);
        due("GONE", clauseOf(x, 2, -3), 1);
        due("not GONE", x.count(3), 0);
    }

    private static void promise15_with400Clauses() {
        Subject x = pigeonsWith(390);
        x.keep(0);
        String before = pictureOf(x);
        due("solve", x.solve(200), 3);
        due("CLAUSES", x.count(1), 400);
        x.keep(1);
        String full = pictureOf(x);
        x.back(0);
        dueSame("the one before", pictureOf(x), before);
        x.back(1);
        dueSame("the full one", pictureOf(x), full);
    }

    public static void main(String[] args) {
        runAll(BoundaryTellingTest.class);
    }
}
