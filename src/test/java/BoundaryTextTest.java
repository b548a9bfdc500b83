/** The boundary cases of promises 4 and 5: TEXTS, their TOKENS and their FAULTS. */
public final class BoundaryTextTest extends Bench {

    // ---- 4: what is told

    private static void promise04_anEmptyText() {
        Subject x = rich();
        x.end(0);
        due("tell()", x.tell(), 0);
        due("fault()", x.fault(), 0);
        Subject y = new Subject();
        dueRefused(y, "tell()", y::tell, 0);
    }

    private static void promise04_blanksAlone() {
        Subject x = new Subject();
        dueTold(x, " ", 0);
        dueTold(x, "\n", 0);
        dueTold(x, times(200, " \n"), 0);
    }

    private static void promise04_aFullText() {
        Subject x = told("grow 9;");
        String text = times(80, "1;") + times(34, "assume;") + " \n";
        due("bytes", text.length(), 400);
        dueTold(x, text, 114);
        due("CLAUSES", x.count(1), 80);
        // nothing but the last byte of 400 ends the statement
        String late = "phase" + times(393, " ") + "1;";
        due("bytes", late.length(), 400);
        dueTold(x, late, 1);
        due("PHASE", x.variable(1, 0), 1);
    }

    private static void promise04_theTapeIsEmptyThenEitherWay() {
        Subject x = new Subject();
        put(x, "grow 2;1;");
        due("tell()", x.tell(), 2);
        due("count(9)", x.count(9), 0);
        due("nothing is told twice", x.tell(), 0);
        put(x, "2;1");
        due("tell()", x.tell(), NONE);
        due("count(9)", x.count(9), 0);
        due("nothing is told twice", x.tell(), 0);
        due("CLAUSES", x.count(1), 1);
    }

    private static void promise04_theShortestStatements() {
        Subject x = new Subject();
        dueTold(x, "grow1;1;-1;assume;phase1;", 5);
        due("V", x.count(0), 1);
        dueClause(x, 0, 1);
        dueClause(x, 1, -1);
        due("PHASE", x.variable(1, 0), 1);
    }

    private static void promise04_theLongestClause() {
        Subject x = told("grow 30;");
        dueTold(x, "30-29 28-27 26-25 24-23;", 1);
        dueClause(x, 0, 30, -29, 28, -27, 26, -25, 24, -23);
    }

    private static void promise04_theMostAssumptions() {
        Subject x = told("grow 30;");
        dueTold(x, "assume 30-29 28-27 26-25 24-23;", 1);
        due("count(4)", x.count(4), 8);
        due("the first", x.assumption(0), 30);
        due("the 8th", x.assumption(7), -23);
    }

    private static void promise04_assumeWithoutOneFreesAll() {
        Subject x = told("grow 3;assume 1 2;");
        dueTold(x, "assume;", 1);
        due("count(4)", x.count(4), 0);
    }

    private static void promise04_assumeIsFromNowOn() {
        Subject x = told("grow 9;assume 1 2 3 4 5 6 7 8;");
        dueTold(x, "assume 9;", 1);
        due("count(4)", x.count(4), 1);
        due("assumption(0)", x.assumption(0), 9);
        dueTold(x, "assume 1;assume-1-2;", 2);
        due("count(4)", x.count(4), 2);
        due("assumption(0)", x.assumption(0), -1);
    }

    private static void promise04_phaseMayNameOneAgain() {
        Subject x = told("grow 2;");
        dueTold(x, "phase 1 -1 1 2 -2;", 1);
        due("PHASE of 1", x.variable(1, 0), 1);
        due("PHASE of 2", x.variable(2, 0), 0);
        dueTold(x, "phase 1;phase 1;", 2);
    }

    private static void promise04_phaseHasNoMost() {
        Subject x = told("grow 30;");
        dueTold(x, "phase" + times(130, "-30") + " 1;", 1);
        due("PHASE of 1", x.variable(1, 0), 1);
    }

    private static void promise04_oneByOne() {
        Subject x = new Subject();
        dueTold(x, "grow 1;1;grow 29;30;assume 30;phase 30;", 6);
        due("V", x.count(0), 30);
        dueFault(new Subject(), "1;grow 1;", 2, 0);
    }

    private static void promise04_theClauseThatIsBeingToldStays() {
        Subject x = told("grow 9;");
        for (int v = 1; v <= 8; v++) {
            x.add(v);
        }
        dueTold(x, "-1;", 1);
        due("count(5)", x.count(5), 8);
        due("close()", x.close(), 1);
        dueClause(x, 1, 1, 2, 3, 4, 5, 6, 7, 8);
    }

    private static void promise04_aFaultAtTheLastTokenChangesNothing() {
        Subject x = rich();
        x.end(0);
        String text = "grow 5;1 2;-14;assume 3 14;phase -5 14;grow 1;15;";
        String[] last = {"16;", ";", "1", "grow 16;", "grow", "x", "1 1;", "assume 2 2;", "phase;", "-"};
        for (String bad : last) {
            put(x, " 0;");
            x.tell();
            String before = pictureOf(x);
            put(x, text + bad);
            due("tell() of " + text + bad, x.tell(), NONE);
            due("a FAULT of it", x.fault() >= 8 * text.length(), true);
            put(x, " 0;");
            x.tell();
            dueSame("all else stays behind " + bad, pictureOf(x), before);
        }
        due("what is being told", x.close(), 4);
        dueClause(x, 4, 2, -5);
    }

    private static void promise04_whatIsKeptStaysAtAFault() {
        Subject x = told("grow 2;");
        x.keep(0);
        dueFault(x, "grow 3;0;", 2, 7);
        due("back(0)", x.back(0), true);
        due("V", x.count(0), 2);
        due("back(1)", x.back(1), false);
    }

    // ---- 5: which FAULT

    private static void promise05_noneAheadOfAny() {
        Subject x = new Subject();
        due("fault()", x.fault(), 0);
        x.grow(31);
        x.solve(0);
        put(x, "0;");
        due("not told yet", x.fault(), 0);
    }

    private static void promise05_thatOfTheLatest() {
        Subject x = told("grow 2;");
        dueFault(x, " 0;", 2, 1);
        dueFault(x, "1", 1, 1);
        dueLogFault(x, "  3;", 2, 2);
        dueTold(x, "", 0);
        dueLogFault(x, "  3;", 2, 2);
        dueLog(x, "", 0);
    }

    private static void promise05_noOtherCallTouchesIt() {
        Subject x = told("grow 2;");
        dueFault(x, " 0;", 2, 1);
        x.grow(31);
        x.add(9);
        x.close();
        x.solve(1);
        x.feed(0, 0, 0, 0, 0);
        x.end(0);
        x.keep(0);
        x.back(0);
        x.proof();
        due("fault()", x.fault(), 2 + 8);
    }

    private static void promise05_theEndIsAtTheLength() {
        Subject x = told("grow 12;");
        dueFault(x, "1", 1, 1);
        dueFault(x, "1 \n ", 1, 4);
        dueFault(x, "-", 1, 1);
        dueFault(x, "1;-", 1, 3);
        dueFault(x, "grow", 1, 4);
        dueFault(x, "grow 1", 1, 6);
        dueFault(x, "assume", 1, 6);
        dueFault(x, "assume 1 ", 1, 9);
        dueFault(x, "phase", 1, 5);
        dueFault(x, "phase 1", 1, 7);
        dueFault(x, "1;2", 1, 3);
        dueFault(x, "12", 1, 2);
    }

    private static void promise05_theEndOfAFullText() {
        Subject x = told("grow 9;");
        dueFault(x, times(399, " ") + "1", 1, 400);
        dueFault(x, "-" + times(399, " "), 1, 400);
        dueFault(x, times(396, " ") + "grow", 1, 400);
        dueFault(x, times(395, " ") + "grows", 1, 395);
        dueFault(x, times(398, " ") + "12", 2, 398);
        dueFault(x, times(399, " ") + ";", 1, 399);
        dueFault(x, times(398, " ") + "0;", 2, 398);
    }

    private static void promise05_1_aClauseHasALiteral() {
        Subject x = told("grow 9;");
        dueFault(x, ";", 1, 0);
        dueFault(x, "1;;", 1, 2);
        dueFault(x, "1; ;", 1, 3);
    }

    private static void promise05_1_aMinusHasAnInt() {
        Subject x = told("grow 9;");
        dueFault(x, "--1;", 1, 1);
        dueFault(x, "-;", 1, 1);
        dueFault(x, "1-;", 1, 2);
        dueFault(x, "-grow 1;", 1, 1);
        dueFault(x, "assume -;", 1, 8);
        dueFault(x, "phase --1;", 1, 7);
    }

    private static void promise05_1_aWordWithinAStatement() {
        Subject x = told("grow 9;");
        dueFault(x, "1 grow 1;", 1, 2);
        dueFault(x, "1 assume 2;", 1, 2);
        dueFault(x, "1phase 2;", 1, 1);
        dueFault(x, "assume 1 assume 2;", 1, 9);
        dueFault(x, "assume phase 2;", 1, 7);
        dueFault(x, "phase grow;", 1, 6);
        dueFault(x, "grow grow 1;", 1, 5);
    }

    private static void promise05_1_growHasOneInt() {
        Subject x = told("grow 9;");
        dueFault(x, "grow;", 1, 4);
        dueFault(x, "grow -1;", 1, 5);
        dueFault(x, "grow 1 1;", 1, 7);
        dueFault(x, "grow 1-1;", 1, 6);
        dueFault(x, "grow 1 grow 1;", 1, 7);
    }

    private static void promise05_1_phaseHasALiteral() {
        Subject x = told("grow 9;");
        dueFault(x, "phase;", 1, 5);
        dueFault(x, "phase ;", 1, 6);
    }

    private static void promise05_1_otherWords() {
        Subject x = told("grow 9;");
        String[] words = {"a", "z", "g", "gro", "grows", "growx 1", "rgrow", "assum", "assumes", "aassume", "phas",
            "phases", "hase", "growa", "growz", "assumea", "assumez", "phasea", "phasez", "brow", "hrow", "gsow", "grpw",
            "grox", "bssume", "asxume", "assumd", "qhase", "pgase", "phbse", "phate", "phasf", "growgrow", "growassume", "Grow", "GROW", "Assume", "Phase", "word"};
        for (String word : words) {
            dueFault(x, word + " 1;", 1, 0);
            dueFault(x, "1;" + word + ";", 1, 2);
        }
        dueFault(x, "gr ow 1;", 1, 0);
        dueFault(x, "groW 1;", 1, 0);
        dueFault(x, "ph\nase 1;", 1, 0);
        dueFault(x, "assume 1 a;", 1, 9);
    }

    private static void promise05_1_otherBytes() {
        for (int sign = 0; sign < 256; sign++) {
            boolean known = sign == ' ' || sign == '\n' || sign == '-' || sign == ';'
                || sign >= '0' && sign <= '9' || sign >= 'a' && sign <= 'z';
            if (!known) {
                Subject x = told("grow 9;");
                dueFault(x, (char) sign + "1;", 1, 0);
                dueFault(x, "1" + (char) sign + ";", 1, 1);
                dueFault(x, "1;" + (char) sign, 1, 2);
                dueFault(x, "grow" + (char) sign + "1;", 1, 4);
            }
        }
    }

    private static void promise05_1_anIntOfMoreDigits() {
        Subject x = told("grow 9;");
        dueFault(x, "001;", 1, 0);
        dueFault(x, "1 100;", 1, 2);
        dueFault(x, "1 -002;", 1, 3);
        dueFault(x, "grow 001;", 1, 5);
        dueFault(x, "assume 001;", 1, 7);
        dueFault(x, "phase 1 001;", 1, 8);
        dueFault(x, times(400, "1"), 1, 0);
        dueFault(x, "12345678901;", 1, 0);
        dueFault(x, "4294967297;", 1, 0);
    }

    private static void promise05_intsOfOneAndTwoDigits() {
        Subject x = new Subject();
        dueTold(x, "grow 09;grow 1;", 2);
        due("V", x.count(0), 10);
        dueTold(x, "01 2-09 10;", 1);
        dueClause(x, 0, 1, 2, -9, 10);
        dueFault(x, "11;", 2, 0);
        // a blank between two digits makes two INTS of them
        dueTold(x, "1 2;", 1);
        dueClause(x, 1, 1, 2);
    }

    private static void promise05_blanksBetweenOrNot() {
        Subject x = new Subject();
        dueTold(x, "\n grow \n 3 \n ;\n-\n1 - 2\n;assume1-2-3;phase1 2;", 4);
        dueClause(x, 0, -1, -2);
        due("count(4)", x.count(4), 3);
        dueFault(x, "1\t2;", 1, 1);
        dueFault(x, "1\r\n;", 1, 1);
        dueFault(x, "1\u000b;", 1, 1);
        dueFault(x, "1\u00a0;", 1, 1);
    }

    private static void promise05_2_noSuchVariable() {
        Subject x = told("grow 9;");
        dueTold(x, "9;-9;assume 9;phase 9 -9;", 4);
        dueFault(x, "10;", 2, 0);
        dueFault(x, "-10;", 2, 1);
        dueFault(x, "- 10;", 2, 2);
        dueFault(x, "0;", 2, 0);
        dueFault(x, "00;", 2, 0);
        dueFault(x, "-0;", 2, 1);
        dueFault(x, "99;", 2, 0);
        dueFault(x, "1 10;", 2, 2);
        dueFault(x, "assume 10;", 2, 7);
        dueFault(x, "assume 1-0;", 2, 9);
        dueFault(x, "phase 10;", 2, 6);
        dueFault(x, "phase 1-10;", 2, 8);
        dueFault(x, "phase 0;", 2, 6);
        Subject all = told("grow 30;");
        dueTold(all, "30;", 1);
        dueFault(all, "31;", 2, 0);
        dueFault(all, "32;", 2, 0);
        dueFault(all, "33;", 2, 0);
        dueFault(new Subject(), "1;", 2, 0);
    }

    private static void promise05_2_isThereAlreadyInThisClause() {
        Subject x = told("grow 30;");
        dueFault(x, "1 1;", 2, 2);
        dueFault(x, "1 -1;", 2, 3);
        dueFault(x, "-1 1;", 2, 3);
        dueFault(x, "-1-1;", 2, 3);
        dueFault(x, "1 01;", 2, 2);
        dueFault(x, "30 2 3 4 5 6 7-30;", 2, 15);
        dueTold(x, "1;1;-1 2;2 1;", 4);
    }

    private static void promise05_2_isThereAlreadyInTheseAssumptions() {
        Subject x = told("grow 30;");
        dueFault(x, "assume 1 1;", 2, 9);
        dueFault(x, "assume 1-1;", 2, 9);
        dueFault(x, "assume 30 2 3 4 5 6 7-30;", 2, 22);
        dueTold(x, "assume 1;1;assume 1;assume-1;", 4);
        dueTold(x, "assume 1 2;", 1);
    }

    private static void promise05_2_growBy0() {
        Subject x = told("grow 9;");
        dueFault(x, "grow 0;", 2, 5);
        dueFault(x, "grow 00;", 2, 5);
        dueFault(x, "grow0", 2, 4);
    }

    private static void promise05_2_growAbove30() {
        Subject x = new Subject();
        dueFault(x, "grow 31;", 2, 5);
        dueFault(x, "grow 99;", 2, 5);
        dueFault(x, "grow 15;grow 16;", 2, 13);
        dueFault(x, "grow 30;grow 1;", 2, 13);
        due("V", x.count(0), 0);
        dueTold(x, "grow 15;grow 14;", 2);
        dueFault(x, "grow 2;", 2, 5);
        dueTold(x, "grow 1;", 1);
        due("V", x.count(0), 30);
        dueFault(x, "grow 1;", 2, 5);
        dueTold(new Subject(), "grow 30;", 1);
    }

    private static void promise05_3_an81stToldClause() {
        Subject x = told("grow 9;");
        dueTold(x, times(78, "1;"), 78);
        dueFault(x, "1;1;1;", 3, 4);
        dueFault(x, "1;1; \n-1;", 3, 6);
        due("told ones", x.count(2), 78);
        dueTold(x, "1;1;", 2);
        dueFault(x, "1;", 3, 0);
        dueFault(x, " 1 2 3;", 3, 1);
        dueFault(x, "grow 1;phase 1;assume 1;1;", 3, 24);
        dueTold(x, "grow 1;phase 1;assume 1;", 3);
        dueFault(told("grow 1;"), times(81, "1;"), 3, 160);
    }

    private static void promise05_3_oneWhereThereAre400() {
        Subject x = pigeonsWith(398);
        dueFault(x, "1;1;1;", 3, 4);
        dueFault(x, "1;1;-1;", 3, 4);
        due("CLAUSES", x.count(1), 398);
        dueTold(x, "1 2;", 1);
        dueFault(x, "1;1;", 3, 2);
        dueTold(x, "1 3;", 1);
        due("CLAUSES", x.count(1), 400);
        dueClause(x, 399, 1, 3);
        dueFault(x, "1;", 3, 0);
        dueTold(x, "assume 1;phase 1;grow 1;", 3);
    }

    private static void promise05_3_aNinthLitOfAClause() {
        Subject x = told("grow 30;");
        dueTold(x, "1 2 3 4 5 6 7 8;", 1);
        dueFault(x, "1 2 3 4 5 6 7 8 9;", 3, 16);
        dueFault(x, "1 2 3 4 5 6 7 8-9;", 3, 15);
        dueFault(x, "1 2 3 4 5 6 7 8 - 9;", 3, 16);
        dueFault(x, "-1-2-3-4-5-6-7-8-9-10;", 3, 16);
    }

    private static void promise05_3_aNinthLitOfAssumptions() {
        Subject x = told("grow 30;");
        dueTold(x, "assume 1 2 3 4 5 6 7 8;", 1);
        dueFault(x, "assume 1 2 3 4 5 6 7 8 9;", 3, 23);
        dueFault(x, "assume 1 2 3 4 5 6 7 8-9;", 3, 22);
        due("count(4)", x.count(4), 8);
        dueTold(x, "assume 9 10 11 12 13 14 15 16;", 1);
    }

    private static void promise05_theFirstAlongTheText() {
        Subject x = told("grow 30;");
        dueFault(x, "0;$", 2, 0);
        dueFault(x, "1 1;;", 2, 2);
        dueFault(x, ";0;", 1, 0);
        dueFault(x, "1 2 3 4 5 6 7 8 9 0;", 3, 16);
        dueFault(x, "1 2 3 4 5 6 7 7 9;", 2, 14);
        dueFault(x, "grow 0 1;", 2, 5);
        dueFault(x, "grow 1", 2, 5);
        dueFault(x, "99 100", 2, 0);
        dueFault(x, "100 99", 1, 0);
        // the "-" of one too many stands ahead of what its INT may have
        dueFault(x, "1 2 3 4 5 6 7 8-8;", 3, 15);
        dueFault(x, "1 2 3 4 5 6 7 8-31;", 3, 15);
        dueFault(x, "1 2 3 4 5 6 7 8-100;", 3, 15);
        dueFault(x, "1 2 3 4 5 6 7 8-", 3, 15);
        Subject full = fullOfTold();
        dueFault(full, "-0;", 3, 0);
        dueFault(full, "-100;", 3, 0);
        dueFault(full, "-", 3, 0);
        dueFault(full, "-;", 3, 0);
        dueFault(full, "1 1;", 3, 0);
    }

    private static void promise05_ofOnePlaceTheLeast() {
        Subject x = told("grow 30;");
        dueFault(x, "1 2 3 4 5 6 7 8 8;", 2, 16);
        dueFault(x, "1 2 3 4 5 6 7 8 1;", 2, 16);
        dueFault(x, "1 2 3 4 5 6 7 8 0;", 2, 16);
        dueFault(x, "1 2 3 4 5 6 7 8 31;", 2, 16);
        dueFault(x, "1 2 3 4 5 6 7 8 100;", 1, 16);
        dueFault(x, "1 2 3 4 5 6 7 8 grow;", 1, 16);
        dueFault(x, "1 2 3 4 5 6 7 8", 1, 15);
        dueFault(x, "assume 1 2 3 4 5 6 7 8 8;", 2, 23);
        dueFault(x, "assume 1 2 3 4 5 6 7 8 31;", 2, 23);
        dueFault(x, "assume 1 2 3 4 5 6 7 8 x;", 1, 23);
        Subject full = fullOfTold();
        dueFault(full, "0;", 2, 0);
        dueFault(full, "10;", 2, 0);
        dueFault(full, "100;", 1, 0);
        dueFault(full, ";", 1, 0);
        dueFault(full, "grows;", 1, 0);
        dueFault(full, "$", 1, 0);
    }

    public static void main(String[] args) {
        runAll(BoundaryTextTest.class);
    }
}
