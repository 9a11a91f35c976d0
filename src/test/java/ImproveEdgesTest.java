/** Promises 13 and 14 at the edges that the document names, a test for each sentence. */
final class ImproveEdgesTest {
    private static final Check check = new Check();

    public static void main(String[] args) {
        emptyProgram();
        fullProgramThatGoes();
        fullProgramThatStays();
        rowsAtTheLastPlaces();
        rowsAtTheFirstPlace();
        longestRowFirst();
        oneByNothingAlone();
        nothingBeforeOne();
        firstAndLastCandidates();
        dFrom1To3();
        numbersAlwaysTried();
        numbersOfTheRow();
        numbersFromTheLeastOn();
        sameInAllStates();
        onlyWhatIsLive();
        arithmeticWraps();
        rowsInOneBlock();
        rowsArePlain();
        restMovesUp();
        eachTMoves();
        tOfOtherOperationsStays();
        goesOnBehind();
        liveIsFoundAnew();
        answersHowManyLess();
        leavesTheRest();

        countOfANewObject();
        countOfRows();
        countOfCandidates();
        countSinceTheBeginning();
        countOfImprovingAlone();
        countOfAnotherWhat();
        check.end();
    }

    private static void improveDue(String when, RowImprover x, int less, int... program) {
        check.due(when + ": improve()", x.improve(), less);
        Desk.programDue(check, when, x, program);
    }

    /** Nothing, six operations with 3 * 4 * 4 instructions, and four with 3 * 4 a number. */
    private static int all(int numbers) {
        return 1 + 6 * 48 + 4 * 12 * numbers;
    }

    /** A program of 24 that ends with these instructions, behind LOADs that stay. */
    private static RowImprover endingWith(int... numbers) {
        RowImprover x = Desk.repeated(24 - numbers.length / 4, Desk.LOAD, 1, 1, 7);
        Desk.type(x, numbers);
        return x;
    }

    // Promise 13: improve

    private static void emptyProgram() {
        check.sentence("Promise 13: Improves the program (of none)");
        RowImprover x = new RowImprover();
        for (int again = 0; again < 3; again++) {
            improveDue("none", x, 0);
            Desk.countsDue(check, "none", x, 0, 0, 0);
        }
        RowImprover cleared = Desk.repeated(24, Desk.ADD, 1, 1, 0);
        cleared.clear();
        improveDue("cleared", cleared, 0);
        Desk.countsDue(check, "cleared", cleared, 0, 0, 0);
    }

    private static void fullProgramThatGoes() {
        check.sentence("Promise 13: Improves the program (of 24, all of which go)");
        for (int size = 1; size <= 24; size++) {
            RowImprover x = Desk.repeated(size, Desk.ADD, 1, 1, 0);
            improveDue("all of " + size, x, size);
            int rows = (size + 2) / 3;
            Desk.countsDue(check, "all of " + size, x, rows, rows, rows);
            improveDue("none is left of " + size, x, 0);
            Desk.countsDue(check, "none is left of " + size, x, rows, rows, rows);
        }
        RowImprover full = Desk.repeated(23, Desk.XORN, 3, 3, 0);
        full.add(Desk.HALT, 0, 0, 0);
        improveDue("23 before HALT", full, 23, Desk.HALT, 0, 0, 0);
        Desk.countsDue(check, "23 before HALT", full, 8, 8, 8);
    }

    private static void fullProgramThatStays() {
        check.sentence("Promise 13: Improves the program (of 24, all of which stay)");
        for (int operation = Desk.LOAD; operation <= Desk.HALT; operation++) {
            RowImprover x = Desk.repeated(24, operation, 0, 0, 0);
            check.due("24 of " + operation + ": improve()", x.improve(), 0);
            check.due("24 of " + operation + ": size()", x.size(), 24);
            Desk.countsDue(check, "24 of " + operation, x, 0, 0, 0);
        }
        // Each of the 22 rows of 3, 23 of 2 and 24 of 1 is looked at, with the numbers 0, 1, 15.
        RowImprover x = new RowImprover();
        for (int place = 0; place < 24; place++) {
            int r = place % 3;
            x.add(Desk.ADD, 1 + r, 1 + (r + 1) % 3, 1 + (r + 2) % 3);
        }
        check.due("24 plain: improve()", x.improve(), 0);
        Desk.countsDue(check, "24 plain", x, 0, 0, 22 * all(3) + 23 * all(3) + 24);
    }

    private static void rowsAtTheLastPlaces() {
        check.sentence("Promise 13: of the rows of 3, 2 and 1 instructions that begin there (so far"
                + " as there are such)");
        RowImprover one = endingWith(Desk.ADD, 2, 2, 0);
        check.due("1 at 23: improve()", one.improve(), 1);
        Desk.countsDue(check, "1 at 23", one, 1, 1, 1);
        RowImprover two = endingWith(Desk.XORN, 2, 2, 9, Desk.XORN, 2, 2, 9);
        check.due("2 at 22: improve()", two.improve(), 2);
        Desk.countsDue(check, "2 at 22", two, 1, 1, 1);
        RowImprover three = endingWith(Desk.ADDN, 3, 3, 5, Desk.ADDN, 3, 3, 5, Desk.ADDN, 3, 3, 6);
        check.due("3 at 21: improve()", three.improve(), 3);
        Desk.countsDue(check, "3 at 21", three, 1, 1, 1);
        RowImprover oneStays = endingWith(Desk.ADDN, 2, 2, 1);
        check.due("1 stays: improve()", oneStays.improve(), 0);
        Desk.countsDue(check, "1 stays", oneStays, 0, 0, 1);
        RowImprover twoStay = endingWith(Desk.ADDN, 2, 2, 1, Desk.ADDN, 3, 3, 1);
        check.due("2 stay: improve()", twoStay.improve(), 0);
        Desk.countsDue(check, "2 stay", twoStay, 0, 0, all(3) + 1 + 1);
        RowImprover threeStay = endingWith(Desk.ADDN, 1, 1, 1, Desk.ADDN, 2, 2, 1,
                Desk.ADDN, 3, 3, 1);
        check.due("3 stay: improve()", threeStay.improve(), 0);
        Desk.countsDue(check, "3 stay", threeStay, 0, 0, all(3) + all(3) + 1 + all(3) + 1 + 1);
    }

    private static void rowsAtTheFirstPlace() {
        check.sentence("Promise 13: IMPROVING goes from place 0 on.");
        improveDue("1 at 0", Desk.typed(Desk.ADD, 2, 2, 0, Desk.LOAD, 1, 1, 0), 1,
                Desk.LOAD, 1, 1, 0);
        improveDue("2 at 0", Desk.typed(Desk.ADDN, 2, 2, 8, Desk.ADDN, 2, 2, 8,
                Desk.LOAD, 1, 1, 0), 2, Desk.LOAD, 1, 1, 0);
        // From the first place on the first two are taken, though the last two would do as well.
        improveDue("2 of 3", Desk.typed(Desk.ADDN, 1, 1, 15, Desk.ADDN, 1, 1, 1,
                Desk.ADDN, 1, 1, 15, Desk.STORE, 1, 0, 0), 2,
                Desk.ADDN, 1, 1, 15, Desk.STORE, 1, 0, 0);
    }

    private static void longestRowFirst() {
        check.sentence("Promise 13: in this order, the first one is taken that can be replaced");
        RowImprover three = Desk.repeated(3, Desk.ADD, 1, 1, 0);
        improveDue("3 before 2 and 1", three, 3);
        Desk.countsDue(check, "3 before 2 and 1", three, 1, 1, 1);
        RowImprover two = Desk.typed(Desk.ADD, 1, 1, 0, Desk.ADD, 1, 1, 0, Desk.STORE, 1, 0, 0);
        improveDue("2 before 1", two, 2, Desk.STORE, 1, 0, 0);
        Desk.countsDue(check, "2 before 1", two, 1, 1, 1);
        // No row of 3 and 2 can be replaced, but that of the first one.
        RowImprover one = Desk.typed(Desk.ADDN, 1, 0, 3, Desk.LOAD, 1, 0, 0);
        improveDue("1 alone", one, 1, Desk.LOAD, 1, 0, 0);
        Desk.countsDue(check, "1 alone", one, 1, 1, 1);
        // That of 2 becomes one before that of 1 becomes nothing: the outcome is the same row.
        RowImprover twoByOne = Desk.typed(Desk.ADD, 3, 3, 0, Desk.ADDN, 2, 2, 6);
        improveDue("2 by one before 1 by nothing", twoByOne, 1, Desk.ADDN, 2, 2, 6);
        Desk.countsDue(check, "2 by one before 1 by nothing", twoByOne, 1, 0, 1 + 288 + 16 + 8 + 3);
    }

    private static void oneByNothingAlone() {
        check.sentence("Promise 13: by nothing, or, if it has 2 or 3, else by one plain"
                + " instruction (not if it has 1)");
        RowImprover x = Desk.typed(Desk.OR, 1, 2, 2);
        improveDue("1 that ADD would do", x, 0, Desk.OR, 1, 2, 2);
        Desk.countsDue(check, "1 that ADD would do", x, 0, 0, 1);
        RowImprover two = Desk.typed(Desk.OR, 1, 2, 2, Desk.OR, 1, 1, 1);
        improveDue("2 that ADD does", two, 1, Desk.ADD, 1, 0, 2);
        Desk.countsDue(check, "2 that ADD does", two, 1, 0, 1 + 3);
        RowImprover three = Desk.typed(Desk.OR, 1, 2, 2, Desk.OR, 1, 1, 1, Desk.OR, 1, 1, 2);
        improveDue("3 that ADD does", three, 2, Desk.ADD, 1, 0, 2);
        Desk.countsDue(check, "3 that ADD does", three, 1, 0, 1 + 3);
    }

    private static void nothingBeforeOne() {
        check.sentence("Promise 13: by nothing, or .. else by one plain instruction");
        // ADD 1 0 1 would do as well.
        RowImprover x = Desk.typed(Desk.XORN, 1, 1, 9, Desk.XORN, 1, 1, 9);
        improveDue("nothing", x, 2);
        Desk.countsDue(check, "nothing", x, 1, 1, 1);
        RowImprover dead = Desk.typed(Desk.ADDN, 1, 1, 9, Desk.ADDN, 2, 2, 9, Desk.JUMP, 0, 0, 2);
        improveDue("nothing is live", dead, 2, Desk.JUMP, 0, 0, 0);
        Desk.countsDue(check, "nothing is live", dead, 1, 1, 1);
    }

    private static void firstAndLastCandidates() {
        check.sentence("Promise 13: the first that does: by operation, D (1 to 3), S (0 to 3),"
                + " T (0 to 3, ..)");
        RowImprover first = Desk.typed(Desk.XOR, 1, 2, 2, Desk.AND, 1, 1, 3);
        improveDue("the first", first, 1, Desk.ADD, 1, 0, 0);
        Desk.countsDue(check, "the first", first, 1, 0, 1 + 1);
        RowImprover add = Desk.typed(Desk.SHIFT, 3, 3, 1, Desk.OR, 3, 3, 3);
        improveDue("the last ADD", add, 1, Desk.ADD, 3, 3, 3);
        Desk.countsDue(check, "the last ADD", add, 1, 0, 1 + 48);
        RowImprover sub = Desk.typed(Desk.XORN, 1, 1, 15, Desk.ADDN, 1, 1, 1);
        improveDue("SUB", sub, 1, Desk.SUB, 1, 0, 1);
        Desk.countsDue(check, "SUB", sub, 1, 0, 1 + 48 + 2);
        RowImprover less = Desk.typed(Desk.LESS, 3, 3, 2, Desk.ANDN, 3, 3, 1);
        improveDue("LESS", less, 1, Desk.LESS, 3, 3, 2);
        Desk.countsDue(check, "LESS", less, 1, 0, 1 + 5 * 48 + 32 + 12 + 3);
        RowImprover shift = Desk.typed(Desk.SHIFT, 3, 3, 2, Desk.ANDN, 3, 3, 15);
        improveDue("the last but one", shift, 1, Desk.SHIFT, 3, 3, 2);
        Desk.countsDue(check, "the last but one", shift, 1, 0, all(4) - 1);
        // The lesser S first: 1 + 2, not 2 + 1; the lesser T first, and D before S.
        improveDue("S first", Desk.typed(Desk.ADD, 3, 2, 1, Desk.OR, 3, 3, 3), 1,
                Desk.ADD, 3, 1, 2);
        improveDue("T first", Desk.typed(Desk.OR, 2, 3, 3, Desk.OR, 2, 2, 2), 1,
                Desk.ADD, 2, 0, 3);
    }

    private static void dFrom1To3() {
        check.sentence("Promise 13: D (1 to 3)");
        for (int d = 1; d <= 3; d++) {
            int other = d % 3 + 1;
            RowImprover x = Desk.typed(Desk.XOR, d, other, other, Desk.ANDN, d, d, 7);
            improveDue("0 in register " + d, x, 1, Desk.ADD, d, 0, 0);
            Desk.countsDue(check, "0 in register " + d, x, 1, 0, 1 + 16 * (d - 1) + 1);
        }
        RowImprover lost = Desk.typed(Desk.ADDN, 0, 1, 7, Desk.XOR, 0, 2, 3);
        improveDue("lost in register 0", lost, 2);
        Desk.countsDue(check, "lost in register 0", lost, 1, 1, 1);
    }

    private static void numbersAlwaysTried() {
        check.sentence("Promise 13: of the numbers 0, 1, 15");
        improveDue("1", Desk.typed(Desk.ADDN, 1, 2, 9, Desk.ADDN, 1, 1, 8), 1, Desk.ADDN, 1, 2, 1);
        improveDue("15", Desk.typed(Desk.ADDN, 1, 2, 7, Desk.ADDN, 1, 1, 8), 1,
                Desk.ADDN, 1, 2, 15);
        improveDue("not 2", Desk.typed(Desk.ADDN, 1, 2, 1, Desk.ADDN, 1, 1, 1), 0,
                Desk.ADDN, 1, 2, 1, Desk.ADDN, 1, 1, 1);
        improveDue("not 14", Desk.typed(Desk.ADDN, 1, 2, 15, Desk.ADDN, 1, 1, 15), 0,
                Desk.ADDN, 1, 2, 15, Desk.ADDN, 1, 1, 15);
        // They are tried once each where they stand in the row as well.
        for (int number : new int[] {0, 1, 15}) {
            RowImprover x = Desk.typed(Desk.ADD, 1, 1, 2, Desk.LESS, 2, 2, 3,
                    Desk.ANDN, 3, 1, number);
            check.due("number " + number + ": improve()", x.improve(), 0);
            Desk.countsDue(check, "number " + number, x,
                    0, 0, all(3) + all(3) + 1 + all(3) + 1 + 1);
        }
        RowImprover each = Desk.typed(Desk.ANDN, 1, 2, 0, Desk.ADDN, 2, 2, 1, Desk.XORN, 3, 3, 15);
        check.due("numbers 0, 1, 15: improve()", each.improve(), 0);
        Desk.countsDue(check, "numbers 0, 1, 15", each,
                0, 0, all(3) + all(3) + 1 + all(3) + 1 + 1);
    }

    private static void numbersOfTheRow() {
        check.sentence("Promise 13: and those of the row's operations 6 to 9");
        for (int operation = Desk.ADDN; operation <= Desk.SHIFT; operation++) {
            for (int number = 0; number <= 15; number++) {
                boolean always = number <= 1 || number == 15;
                RowImprover x = Desk.typed(operation, 1, 2, number, Desk.ADD, 3, 3, 3);
                check.due("number " + number + ": improve()", x.improve(), 0);
                Desk.countsDue(check, "number " + number + " of " + operation, x,
                        0, 0, all(always ? 3 : 4) + 1 + 1);
            }
        }
        for (int operation = Desk.ADD; operation <= Desk.LESS; operation++) {
            RowImprover x = Desk.typed(operation, 1, 1, 3, operation, 3, 3, 2);
            check.due("operation " + operation + ": improve()", x.improve(), 0);
            Desk.countsDue(check, "no number of " + operation, x, 0, 0, all(3) + 1 + 1);
        }
        RowImprover three = Desk.typed(Desk.ADDN, 1, 1, 2, Desk.XORN, 2, 2, 14, Desk.ANDN, 3, 3, 7);
        check.due("three numbers: improve()", three.improve(), 0);
        Desk.countsDue(check, "three numbers", three, 0, 0, all(6) + all(5) + 1 + all(5) + 1 + 1);
        // The number of an instruction beside the row is none of the row's.
        improveDue("beside the row", Desk.typed(Desk.ADDN, 1, 2, 1, Desk.ADDN, 1, 1, 1,
                Desk.STORE, 1, 0, 2, Desk.ADDN, 3, 3, 2), 0, Desk.ADDN, 1, 2, 1,
                Desk.ADDN, 1, 1, 1, Desk.STORE, 1, 0, 2, Desk.ADDN, 3, 3, 2);
    }

    private static void numbersFromTheLeastOn() {
        check.sentence("Promise 13: from the least on");
        // Of 0, 1, 6, 9 and 15 the third and the fourth; behind ADDN 1 0 and ADDN 1 1.
        RowImprover six = Desk.typed(Desk.XORN, 1, 0, 9, Desk.ANDN, 1, 1, 6, Desk.ADDN, 1, 2, 6);
        improveDue("6", six, 2, Desk.ADDN, 1, 2, 6);
        Desk.countsDue(check, "6", six, 1, 0, 1 + 288 + 2 * 5 + 3);
        RowImprover nine = Desk.typed(Desk.XORN, 1, 0, 9, Desk.ANDN, 1, 1, 6, Desk.ADDN, 1, 2, 9);
        improveDue("9", nine, 2, Desk.ADDN, 1, 2, 9);
        Desk.countsDue(check, "9", nine, 1, 0, 1 + 288 + 2 * 5 + 4);
        RowImprover fifteen = Desk.typed(Desk.XORN, 1, 0, 9, Desk.ANDN, 1, 1, 6,
                Desk.ADDN, 1, 2, 15);
        improveDue("15", fifteen, 2, Desk.ADDN, 1, 2, 15);
        Desk.countsDue(check, "15", fifteen, 1, 0, 1 + 288 + 2 * 5 + 5);
    }

    private static void sameInAllStates() {
        check.sentence("Promise 13: It does if in all states all registers live behind the row have"
                + " the same values behind it as behind the row.");
        // ADDN 1 0 1 would do but for the state where all are 0.
        improveDue("but where all are 0",
                Desk.typed(Desk.OR, 1, 1, 2, Desk.OR, 1, 1, 3, Desk.LESS, 1, 0, 1), 0,
                Desk.OR, 1, 1, 2, Desk.OR, 1, 1, 3, Desk.LESS, 1, 0, 1);
        // ADDN 2 0 1 would do but where register 1 is 15.
        improveDue("but where one is 15",
                Desk.typed(Desk.ADDN, 2, 1, 1, Desk.LESS, 2, 1, 2), 0,
                Desk.ADDN, 2, 1, 1, Desk.LESS, 2, 1, 2);
        // Start values are not all states: that they are 0 does not help.
        improveDue("not by start values", Desk.typed(Desk.ADD, 1, 2, 3), 0, Desk.ADD, 1, 2, 3);
    }

    private static void onlyWhatIsLive() {
        check.sentence("Promise 13: all registers live behind the row");
        for (int r = 1; r <= 3; r++) {
            improveDue("live at the end", Desk.typed(Desk.ADDN, r, r, 1), 0, Desk.ADDN, r, r, 1);
            improveDue("live at HALT", Desk.typed(Desk.ADDN, r, r, 1, Desk.HALT, 0, 0, 0), 0,
                    Desk.ADDN, r, r, 1, Desk.HALT, 0, 0, 0);
            improveDue("written behind it", Desk.typed(Desk.ADDN, r, r, 1, Desk.LOAD, r, 0, 0), 1,
                    Desk.LOAD, r, 0, 0);
            improveDue("read as it is written",
                    Desk.typed(Desk.ADDN, r, r, 1, Desk.LOAD, r, r, 0), 0,
                    Desk.ADDN, r, r, 1, Desk.LOAD, r, r, 0);
            improveDue("dead in a round without end",
                    Desk.typed(Desk.ADDN, r, r, 1, Desk.JUMP, 0, 0, 1), 1, Desk.JUMP, 0, 0, 0);
            improveDue("live where a T leads out",
                    Desk.typed(Desk.ADDN, r, r, 1, Desk.JUMP, 0, 0, 24), 0,
                    Desk.ADDN, r, r, 1, Desk.JUMP, 0, 0, 24);
        }
        // A help that is dead behind the row need not be written by what comes in its place.
        improveDue("a dead help", Desk.typed(Desk.ADDN, 3, 2, 0, Desk.ADD, 1, 3, 3,
                Desk.LOAD, 3, 0, 0), 1, Desk.ADD, 1, 2, 2, Desk.LOAD, 3, 0, 0);
    }

    private static void arithmeticWraps() {
        check.sentence("Promise 13: all arithmetic is modulo 16");
        improveDue("8 + 8", Desk.typed(Desk.ADDN, 1, 1, 8, Desk.ADDN, 1, 1, 8), 2);
        improveDue("15 + 1", Desk.typed(Desk.ADDN, 1, 1, 15, Desk.ADDN, 1, 1, 1), 2);
        improveDue("0 - (0 - S)", Desk.typed(Desk.SUB, 1, 0, 1, Desk.SUB, 1, 0, 1), 2);
        improveDue("7 + 8 is 15", Desk.typed(Desk.ADDN, 1, 1, 7, Desk.ADDN, 1, 1, 8), 1,
                Desk.ADDN, 1, 1, 15);
        improveDue("9 + 8 is 1", Desk.typed(Desk.ADDN, 1, 1, 9, Desk.ADDN, 1, 1, 8), 1,
                Desk.ADDN, 1, 1, 1);
        improveDue("shifted off", Desk.typed(Desk.SHIFT, 1, 1, 3, Desk.SHIFT, 1, 1, 1), 1,
                Desk.ADD, 1, 0, 0);
        improveDue("not shifted off", Desk.typed(Desk.SHIFT, 1, 1, 2, Desk.SHIFT, 1, 1, 1), 0,
                Desk.SHIFT, 1, 1, 2, Desk.SHIFT, 1, 1, 1);
    }

    private static void rowsInOneBlock() {
        check.sentence("Promise 13: ROWS of instructions are in one block");
        for (int operation = Desk.SAME; operation <= Desk.JUMP; operation++) {
            // The three come to nothing together, and no two of them to one instruction.
            for (int target = 0; target <= 4; target++) {
                RowImprover x = Desk.typed(Desk.ADDN, 1, 1, 5, Desk.ADDN, 1, 1, 5,
                        Desk.ADDN, 1, 1, 6, operation, 0, 0, target, Desk.STORE, 1, 0, 0);
                boolean parted = target == 1 || target == 2;
                check.due("T " + target + " of " + operation + ": improve()", x.improve(),
                        parted ? 0 : 3);
                check.due("T " + target + " of " + operation + ": size()", x.size(),
                        parted ? 5 : 2);
            }
        }
        improveDue("behind SAME", Desk.typed(Desk.SAME, 1, 2, 24, Desk.XORN, 1, 1, 3,
                Desk.XORN, 1, 1, 3), 2, Desk.SAME, 1, 2, 22);
        improveDue("behind HALT", Desk.typed(Desk.HALT, 0, 0, 0, Desk.XORN, 1, 1, 3,
                Desk.XORN, 1, 1, 3), 2, Desk.HALT, 0, 0, 0);
    }

    private static void rowsArePlain() {
        check.sentence("Promise 13: ROWS of instructions are .. plain");
        for (int operation = Desk.LOAD; operation <= Desk.HALT; operation++) {
            int t = operation >= Desk.SAME && operation <= Desk.JUMP ? 2 : 0;
            RowImprover x = Desk.typed(Desk.XORN, 1, 1, 3, operation, 0, 0, t, Desk.XORN, 1, 1, 3);
            improveDue("parted by " + operation, x, 0,
                    Desk.XORN, 1, 1, 3, operation, 0, 0, t, Desk.XORN, 1, 1, 3);
            Desk.countsDue(check, "parted by " + operation, x, 0, 0, 1 + 1);
        }
        // LOAD to register 0 does nothing, but is no row.
        improveDue("LOAD to register 0", Desk.typed(Desk.LOAD, 0, 0, 0), 0, Desk.LOAD, 0, 0, 0);
        improveDue("SAME to the next place", Desk.typed(Desk.SAME, 0, 0, 1), 0, Desk.SAME, 0, 0, 1);
    }

    private static void restMovesUp() {
        check.sentence("Promise 13: Where a row is replaced, the rest moves up");
        for (int n = 1; n <= 3; n++) {
            for (int place = 0; place <= 24 - n; place++) {
                RowImprover x = new RowImprover();
                for (int at = 0; at < 24; at++) {
                    boolean inRow = at >= place && at < place + n;
                    x.add(inRow ? Desk.ADD : Desk.STORE, 1, inRow ? 1 : at % 4,
                            inRow ? 0 : at % 8);
                }
                String when = n + " at " + place;
                check.due(when + ": improve()", x.improve(), n);
                check.due(when + ": size()", x.size(), 24 - n);
                for (int at = 0; at < 24 - n; at++) {
                    int before = at < place ? at : at + n;
                    check.due(when + ": operation", x.instruction(at, 0), Desk.STORE);
                    check.due(when + ": S at " + at, x.instruction(at, 2), before % 4);
                    check.due(when + ": T at " + at, x.instruction(at, 3), before % 8);
                }
            }
        }
    }

    /** A program of 24 with a row at place 5 and branches to a target at places 0 and 23. */
    private static RowImprover aroundRow(int operation, int target, int... row) {
        RowImprover x = Desk.typed(operation, 0, 0, target);
        for (int place = 1; place < 23; place++) {
            int i = 4 * (place - 5);
            if (i >= 0 && i < row.length) {
                x.add(row[i], row[i + 1], row[i + 2], row[i + 3]);
            } else {
                x.add(Desk.STORE, 1, 0, 0);
            }
        }
        x.add(operation, 0, 0, target);
        return x;
    }

    private static void tsDue(int operation, int target, int gone, int... row) {
        int length = row.length / 4;
        boolean parted = target > 5 && target < 5 + length;
        if (parted) {
            return;
        }
        RowImprover x = aroundRow(operation, target, row);
        String when = length + " become " + (length - gone) + ", T " + target + " of " + operation;
        check.due(when + ": improve()", x.improve(), gone);
        int due = target > 5 ? target - gone : target;
        check.due(when + ": T at 0", x.instruction(0, 3), due);
        check.due(when + ": T at the last", x.instruction(23 - gone, 3), due);
        check.due(when + ": the last", x.instruction(23 - gone, 0), operation);
    }

    private static void eachTMoves() {
        check.sentence("Promise 13: and each T of SAME, OTHER and JUMP that is above the place with"
                + " it");
        for (int operation = Desk.SAME; operation <= Desk.JUMP; operation++) {
            for (int target = 0; target <= 24; target++) {
                tsDue(operation, target, 1, Desk.ADD, 1, 1, 0);
                tsDue(operation, target, 2, Desk.XORN, 1, 1, 9, Desk.XORN, 1, 1, 9);
                tsDue(operation, target, 3, Desk.ADDN, 1, 1, 5, Desk.ADDN, 1, 1, 5,
                        Desk.ADDN, 1, 1, 6);
                tsDue(operation, target, 1, Desk.XORN, 1, 1, 15, Desk.ADDN, 1, 1, 1);
                tsDue(operation, target, 2, Desk.XORN, 1, 1, 15, Desk.ADDN, 1, 1, 1,
                        Desk.OR, 1, 1, 1);
            }
        }
        // A row at place 0: a T of 0 stays; one at the place behind it comes to its place.
        improveDue("at place 0", Desk.typed(Desk.XORN, 1, 1, 9, Desk.XORN, 1, 1, 9,
                Desk.SAME, 1, 2, 0, Desk.OTHER, 1, 2, 2, Desk.JUMP, 0, 0, 24), 2,
                Desk.SAME, 1, 2, 0, Desk.OTHER, 1, 2, 0, Desk.JUMP, 0, 0, 22);
    }

    private static void tOfOtherOperationsStays() {
        check.sentence("Promise 13: each T of SAME, OTHER and JUMP (of no other operation)");
        improveDue("numbers, registers and cells", Desk.typed(Desk.ADD, 1, 1, 0,
                Desk.LOAD, 1, 2, 7, Desk.STORE, 2, 1, 6, Desk.XORN, 1, 2, 12, Desk.STORE, 1, 2, 5,
                Desk.SUB, 1, 2, 3, Desk.STORE, 1, 2, 1, Desk.HALT, 0, 0, 0), 1,
                Desk.LOAD, 1, 2, 7, Desk.STORE, 2, 1, 6, Desk.XORN, 1, 2, 12, Desk.STORE, 1, 2, 5,
                Desk.SUB, 1, 2, 3, Desk.STORE, 1, 2, 1, Desk.HALT, 0, 0, 0);
    }

    private static void goesOnBehind() {
        check.sentence("Promise 13: one goes on behind what came in its place");
        // Behind nothing that is the same place.
        RowImprover nothing = Desk.typed(Desk.XORN, 1, 1, 9, Desk.XORN, 1, 1, 9,
                Desk.STORE, 1, 0, 0, Desk.XORN, 2, 2, 9, Desk.XORN, 2, 2, 9, Desk.ADD, 3, 3, 0);
        improveDue("behind nothing", nothing, 5, Desk.STORE, 1, 0, 0);
        Desk.countsDue(check, "behind nothing", nothing, 2, 2, 2);
        // Behind one instruction: it begins no row of the same improving.
        RowImprover one = Desk.typed(Desk.ADDN, 1, 2, 1, Desk.OR, 1, 1, 1, Desk.AND, 1, 1, 1,
                Desk.ADDN, 1, 1, 15);
        improveDue("behind one", one, 2, Desk.ADDN, 1, 2, 1, Desk.ADDN, 1, 1, 15);
        improveDue("again", one, 1, Desk.ADD, 1, 0, 2);
        improveDue("once more", one, 0, Desk.ADD, 1, 0, 2);
        check.sentence("Promise 13: Where none is replaced, one goes on at the next place.");
        RowImprover later = Desk.typed(Desk.ADDN, 1, 1, 4, Desk.LOAD, 2, 0, 0, Desk.ADD, 3, 3, 0);
        improveDue("at the next places", later, 1, Desk.ADDN, 1, 1, 4, Desk.LOAD, 2, 0, 0);
        Desk.countsDue(check, "at the next places", later, 1, 1, 1 + 1);
    }

    private static void liveIsFoundAnew() {
        check.sentence("Promise 13: all that is live having been found anew");
        // When the reader of register 2 has gone, what wrote it in the round is dead.
        RowImprover x = Desk.typed(
                Desk.JUMP, 0, 0, 3,
                Desk.ADD, 1, 2, 0,
                Desk.JUMP, 0, 0, 3,
                Desk.LOAD, 1, 0, 0,
                Desk.ADDN, 2, 0, 3,
                Desk.JUMP, 0, 0, 1);
        check.due("register 2 is live before", x.live(5), 4);
        improveDue("dead by what has gone", x, 2,
                Desk.JUMP, 0, 0, 2,
                Desk.JUMP, 0, 0, 2,
                Desk.LOAD, 1, 0, 0,
                Desk.JUMP, 0, 0, 1);
        check.due("dead by what has gone: count(1)", x.count(1), 2);
    }

    private static void answersHowManyLess() {
        check.sentence("Promise 13: how many instructions it has less");
        for (int n = 0; n <= 12; n++) {
            RowImprover x = new RowImprover();
            for (int place = 0; place < 12; place++) {
                x.add(Desk.STORE, 1, 0, place % 8);
                x.add(place < n ? Desk.ADD : Desk.LOAD, 1, 1, 0);
            }
            check.due(n + " of 24 go: improve()", x.improve(), n);
            check.due(n + " of 24 go: size()", x.size(), 24 - n);
            Desk.countsDue(check, n + " of 24 go", x, n, n, n);
            check.due("improve() again", x.improve(), 0);
        }
    }

    private static void leavesTheRest() {
        check.sentence("Promise 13: Improves the program (start values and the latest run stay)");
        RowImprover x = Desk.experienced(Desk.ADDN, 1, 1, 8, Desk.ADDN, 1, 1, 8);
        x.run(1);
        x.improve();
        check.due("result(1)", x.result(1), 3 + 8);
        Desk.experienceDue(check, "the latest run", x, 2);
        check.due("result(12)", x.result(12), 0);
        check.due("result(13)", x.result(13), 1);
        x.run(0);
        Desk.experienceDue(check, "run(0)", x, 1);
        check.due("run(0), result(12)", x.result(12), 1);
    }

    // Promise 14: count

    private static void countOfANewObject() {
        check.sentence("Promise 14: Of all improving since the beginning (of none)");
        Desk.countsDue(check, "new", new RowImprover(), 0, 0, 0);
        Desk.countsDue(check, "typed", Desk.repeated(24, Desk.ADD, 1, 1, 0), 0, 0, 0);
    }

    private static void countOfRows() {
        check.sentence("Promise 14: what = 0 how many rows were replaced, 1 how many of these by"
                + " nothing");
        RowImprover nothing = Desk.typed(Desk.ADD, 1, 1, 0);
        nothing.improve();
        Desk.countsDue(check, "one by nothing", nothing, 1, 1, 1);
        RowImprover one = Desk.typed(Desk.XOR, 1, 1, 1, Desk.AND, 1, 1, 1);
        one.improve();
        Desk.countsDue(check, "one by one", one, 1, 0, 2);
        RowImprover both = Desk.typed(Desk.XOR, 1, 1, 1, Desk.AND, 1, 1, 1, Desk.STORE, 1, 0, 0,
                Desk.ADD, 2, 2, 0, Desk.STORE, 1, 0, 1, Desk.ADD, 3, 3, 0, Desk.ADD, 3, 3, 0);
        both.improve();
        Desk.countsDue(check, "one by one, two by nothing", both, 3, 2, 2 + 1 + 1);
    }

    private static void countOfCandidates() {
        check.sentence("Promise 14: 2 how many candidates (nothing, or one instruction) were looked"
                + " at");
        RowImprover one = Desk.typed(Desk.ADDN, 1, 1, 1);
        one.improve();
        Desk.countsDue(check, "nothing for one", one, 0, 0, 1);
        RowImprover two = Desk.typed(Desk.ADDN, 1, 1, 1, Desk.ADDN, 2, 2, 1);
        two.improve();
        Desk.countsDue(check, "all for two", two, 0, 0, all(3) + 1 + 1);
        RowImprover found = Desk.typed(Desk.OR, 1, 3, 3, Desk.OR, 1, 1, 1);
        found.improve();
        Desk.countsDue(check, "up to the one that does", found, 1, 0, 1 + 4);
    }

    private static void countSinceTheBeginning() {
        check.sentence("Promise 14: Of all improving since the beginning");
        RowImprover x = new RowImprover();
        for (int round = 1; round <= 20; round++) {
            Desk.type(x, Desk.XOR, 1, 1, 1, Desk.AND, 1, 1, 1, Desk.STORE, 1, 0, 0,
                    Desk.ADD, 2, 2, 0);
            x.improve();
            Desk.countsDue(check, "round " + round, x, 2 * round, round, 3 * round);
            x.clear();
            Desk.countsDue(check, "cleared " + round, x, 2 * round, round, 3 * round);
        }
    }

    private static void countOfImprovingAlone() {
        check.sentence("Promise 14: Of all improving (and of nothing else)");
        RowImprover x = Desk.typed(Desk.ADD, 1, 1, 0, Desk.XOR, 2, 2, 2, Desk.AND, 2, 2, 2);
        x.same(0, 1, 0, 0, 15);
        x.same(0, 3, 1, 1, 15);
        x.live(0);
        x.block(2);
        x.run(500);
        x.replace(0, Desk.ADD, 1, 0, 1);
        check.thrown("a wrong add", Desk.ARGUMENT, () -> x.add(16, 0, 0, 0));
        check.thrown("a wrong same", Desk.INDEX, () -> x.same(1, 3, 0, 0, 15) ? 1 : 0);
        Desk.countsDue(check, "no improving", x, 0, 0, 0);
    }

    private static void countOfAnotherWhat() {
        check.sentence("Promise 14: NONE for another what.");
        for (int what : Desk.outside(0, 2)) {
            check.due("count(" + what + ")", Desk.experienced().count(what), -1);
            check.due("new: count(" + what + ")", new RowImprover().count(what), -1);
        }
    }
}
