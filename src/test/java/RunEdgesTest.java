/** Promises 7 to 9, and the machine they run, at the edges; a test for each sentence. */
final class RunEdgesTest {
    private static final Check check = new Check();

    public static void main(String[] args) {
        startOfEachNumber();
        startWithTheLeastAndTheGreatest();
        startOfNoSuchNumber();
        startWithNoSuchValue();
        startIsNoRun();

        runBeginsAt0WithTheStartValues();
        runAnswersHowManyWereDone();
        runDoesAtMostLimit();
        runOfTheLeastAndTheGreatestLimit();
        runOfNoSuchLimit();
        runOfTheEmptyProgram();
        runOfTheFullProgram();
        haltIsOneInstruction();

        resultIsOfTheLatestRun();
        resultTellsEachRegisterAndCell();
        resultTellsWhetherItCameToTheEnd();
        resultTellsThePlace();
        resultOfAnotherWhat();

        arithmeticIsModulo16();
        shiftsFallOff();
        lessAtItsEdges();
        bitByBit();
        register0IsAlways0();
        cellsAreModulo8();
        branchesToTheLeastAndTheGreatest();
        branchesOnEqualAndDiffering();
        placesWithoutInstruction();
        check.end();
    }

    private static long started(RowImprover x, int number, int v) {
        x.start(number, v);
        return 0;
    }

    /** Runs one instruction with start values in registers 1 to 3, and answers register 1. */
    private static int after(int operation, int s, int t) {
        boolean number = operation >= Desk.ADDN;
        RowImprover x = Desk.typed(operation, 1, 2, number ? t : 3);
        x.start(1, 9);
        x.start(2, s);
        if (!number) {
            x.start(3, t);
        }
        x.run(1);
        return x.result(1);
    }

    private static void afterDue(int operation, int s, int t, int due) {
        check.due("operation " + operation + " of " + s + " and " + t,
                after(operation, s, t), due);
    }

    private static void endDue(String when, RowImprover x, int end, int place) {
        check.due(when + ": result(12)", x.result(12), end);
        check.due(when + ": result(13)", x.result(13), place);
    }

    // Promise 7: start

    private static void startOfEachNumber() {
        check.sentence("Promise 7: Register 1 .. 3 (number = 1 .. 3) or cell number - 4 (4 .. 11)"
                + " starts with v.");
        for (int number = 1; number <= 11; number++) {
            RowImprover x = new RowImprover();
            x.start(number, 13);
            x.run(0);
            for (int what = 0; what <= 11; what++) {
                check.due("start(" + number + ", 13), result(" + what + ")",
                        x.result(what), what == number ? 13 : 0);
            }
        }
        RowImprover cells = Desk.typed(Desk.LOAD, 1, 0, 0, Desk.LOAD, 2, 0, 7);
        cells.start(4, 5);
        cells.start(11, 6);
        cells.run(2);
        check.due("start(4, 5) is cell 0", cells.result(1), 5);
        check.due("start(11, 6) is cell 7", cells.result(2), 6);
    }

    private static void startWithTheLeastAndTheGreatest() {
        check.sentence("Promise 7: v is 0 .. 15");
        for (int number = 1; number <= 11; number++) {
            RowImprover x = new RowImprover();
            for (int v : new int[] {0, 1, 14, 15, 0, 15}) {
                x.start(number, v);
                x.run(0);
                check.due("start(" + number + ", " + v + ")", x.result(number), v);
            }
        }
    }

    private static void startRefused(int number, int v) {
        Desk.refused(check, "start(" + number + ", " + v + ")", Desk.ARGUMENT,
                () -> Desk.experienced(Desk.ADD, 1, 1, 2, Desk.STORE, 1, 3, 1),
                x -> started(x, number, v));
    }

    private static void startOfNoSuchNumber() {
        check.sentence("Promise 7: IllegalArgumentException when it is none of these");
        for (int number : Desk.outside(1, 11)) {
            for (int v : new int[] {0, 1, 15, -1, 16}) {
                startRefused(number, v);
            }
        }
    }

    private static void startWithNoSuchValue() {
        check.sentence("Promise 7: IllegalArgumentException when .. v is not 0 .. 15");
        for (int number = 1; number <= 11; number++) {
            for (int v : Desk.outside(0, 15)) {
                startRefused(number, v);
            }
        }
    }

    private static void startIsNoRun() {
        check.sentence("Promise 7: starts with v (the latest run stays as it was)");
        RowImprover x = Desk.typed(Desk.ADDN, 1, 1, 1, Desk.JUMP, 0, 0, 0);
        x.run(3);
        for (int number = 1; number <= 11; number++) {
            x.start(number, 15);
        }
        for (int what = 0; what <= 11; what++) {
            check.due("result(" + what + ")", x.result(what), what == 1 ? 2 : 0);
        }
        endDue("start", x, 0, 1);
    }

    // Promise 8: run

    private static void runBeginsAt0WithTheStartValues() {
        check.sentence("Promise 8: A run begins at place 0 with the START values of registers and"
                + " cells (0 at first)");
        RowImprover x = Desk.typed(Desk.ADDN, 1, 1, 1, Desk.STORE, 1, 0, 7, Desk.JUMP, 0, 0, 0);
        for (int again = 0; again < 3; again++) {
            x.run(5);
            check.due("register 1", x.result(1), 2);
            check.due("cell 7", x.result(11), 2);
            endDue("run(5)", x, 0, 2);
            x.run(1);
            check.due("register 1 begins anew", x.result(1), 1);
            check.due("cell 7 begins anew", x.result(11), 0);
            endDue("run(1)", x, 0, 1);
        }
        x.start(1, 15);
        x.start(11, 9);
        x.run(1);
        check.due("register 1 from 15", x.result(1), 0);
        check.due("cell 7 from 9", x.result(11), 9);
    }

    private static void runAnswersHowManyWereDone() {
        check.sentence("Promise 8: Runs the program: how many instructions were done");
        check.due("a straight one", Desk.repeated(24, Desk.ADD, 1, 1, 1).run(500), 24);
        check.due("a jump over two",
                Desk.typed(Desk.JUMP, 0, 0, 3, Desk.ADD, 1, 1, 1, Desk.ADD, 1, 1, 1).run(500), 1);
        // Three rounds of three, until register 1 is 3 as register 2.
        RowImprover rounds = Desk.typed(Desk.ADDN, 1, 1, 1, Desk.SAME, 1, 2, 3, Desk.JUMP, 0, 0, 0);
        rounds.start(2, 3);
        check.due("three rounds", rounds.run(500), 8);
        rounds.start(2, 0);
        check.due("sixteen rounds", rounds.run(500), 47);
        check.due("register 1 is 0 again", rounds.result(1), 0);
    }

    private static void runDoesAtMostLimit() {
        check.sentence("Promise 8: at most limit");
        RowImprover x = Desk.repeated(5, Desk.ADDN, 3, 3, 1);
        for (int limit = 0; limit <= 7; limit++) {
            int done = Math.min(limit, 5);
            check.due("run(" + limit + ") of 5", x.run(limit), done);
            check.due("register 3", x.result(3), done);
            endDue("run(" + limit + ") of 5", x, limit >= 5 ? 1 : 0, done);
        }
    }

    private static void runOfTheLeastAndTheGreatestLimit() {
        check.sentence("Promise 8: limit is 0 .. 500");
        RowImprover x = Desk.typed(Desk.ADDN, 1, 1, 1, Desk.JUMP, 0, 0, 0);
        x.start(1, 7);
        check.due("run(0)", x.run(0), 0);
        check.due("run(0) leaves the start value", x.result(1), 7);
        endDue("run(0)", x, 0, 0);
        check.due("run(1)", x.run(1), 1);
        endDue("run(1)", x, 0, 1);
        check.due("run(499)", x.run(499), 499);
        check.due("250 rounds begun", x.result(1), (7 + 250) % 16);
        endDue("run(499)", x, 0, 1);
        check.due("run(500)", x.run(500), 500);
        check.due("250 rounds done", x.result(1), (7 + 250) % 16);
        endDue("run(500)", x, 0, 0);
    }

    private static void runOfNoSuchLimit() {
        check.sentence("Promise 8: IllegalArgumentException when limit is not 0 .. 500");
        for (int limit : Desk.outside(0, 500)) {
            String call = "run(" + limit + ")";
            Desk.refused(check, call, Desk.ARGUMENT, RowImprover::new, x -> x.run(limit));
            Desk.refused(check, call, Desk.ARGUMENT,
                    () -> Desk.experienced(Desk.ADD, 1, 1, 2, Desk.HALT, 0, 0, 0),
                    x -> x.run(limit));
        }
    }

    private static void runOfTheEmptyProgram() {
        check.sentence("Promise 8: at a place where there is no instruction the program is at its"
                + " end (the empty program)");
        for (int limit : new int[] {0, 1, 500}) {
            RowImprover x = Desk.experienced();
            check.due("run(" + limit + ") of none", x.run(limit), 0);
            endDue("run(" + limit + ") of none", x, 1, 0);
            Desk.experienceDue(check, "run(" + limit + ") of none", x, 1);
        }
    }

    private static void runOfTheFullProgram() {
        check.sentence("Promise 8: at a place where there is no instruction the program is at its"
                + " end (the full program)");
        RowImprover x = Desk.repeated(24, Desk.ADDN, 2, 2, 3);
        for (int limit = 22; limit <= 26; limit++) {
            int done = Math.min(limit, 24);
            check.due("run(" + limit + ") of 24", x.run(limit), done);
            check.due("register 2", x.result(2), done * 3 % 16);
            endDue("run(" + limit + ") of 24", x, limit >= 24 ? 1 : 0, done);
        }
        x.replace(23, Desk.JUMP, 0, 0, 0);
        check.due("run(500) round 24", x.run(500), 500);
        endDue("run(500) round 24", x, 0, 500 % 24);
    }

    private static void haltIsOneInstruction() {
        check.sentence("Promise 8: so many instructions (HALT is one) as it may");
        RowImprover x = Desk.typed(Desk.ADDN, 1, 1, 1, Desk.HALT, 0, 0, 0, Desk.ADDN, 1, 1, 1);
        check.due("run(1) before HALT", x.run(1), 1);
        endDue("run(1) before HALT", x, 0, 1);
        for (int limit : new int[] {2, 3, 500}) {
            check.due("run(" + limit + ") of HALT", x.run(limit), 2);
            check.due("nothing is done behind HALT", x.result(1), 1);
            endDue("run(" + limit + ") of HALT", x, 1, 2);
        }
    }

    // Promise 9: result

    private static void resultIsOfTheLatestRun() {
        check.sentence("Promise 9: Of the latest run");
        RowImprover x = Desk.typed(Desk.ADDN, 1, 2, 0, Desk.ADD, 1, 0, 2, Desk.STORE, 1, 0, 0);
        x.start(2, 6);
        x.run(2);
        x.start(2, 9);
        x.improve();
        x.replace(0, Desk.HALT, 0, 0, 0);
        x.add(Desk.HALT, 0, 0, 0);
        check.thrown("run(501)", Desk.ARGUMENT, () -> x.run(501));
        x.live(0);
        x.clear();
        check.due("result(1)", x.result(1), 6);
        check.due("result(2)", x.result(2), 6);
        check.due("result(4)", x.result(4), 0);
        endDue("behind other calls", x, 0, 2);
        x.run(0);
        check.due("result(2) of the next run", x.result(2), 9);
        check.due("result(1) of the next run", x.result(1), 0);
        endDue("the next run", x, 1, 0);
    }

    private static void resultTellsEachRegisterAndCell() {
        check.sentence("Promise 9: what = 0 .. 3 the registers, 4 .. 11 the cells");
        RowImprover x = Desk.typed(
                Desk.ADDN, 1, 0, 15, Desk.ADDN, 2, 0, 5, Desk.ADDN, 3, 0, 9,
                Desk.STORE, 1, 0, 0, Desk.STORE, 2, 0, 3, Desk.STORE, 3, 0, 7);
        x.run(6);
        int[] due = {0, 15, 5, 9, 15, 0, 0, 5, 0, 0, 0, 9};
        for (int what = 0; what <= 11; what++) {
            check.due("result(" + what + ")", x.result(what), due[what]);
        }
    }

    private static void resultTellsWhetherItCameToTheEnd() {
        check.sentence("Promise 9: 12 whether it came to the end");
        RowImprover x = Desk.typed(Desk.ADD, 1, 1, 1, Desk.ADD, 1, 1, 1);
        check.due("before the first run", x.result(12), 0);
        for (int limit = 0; limit <= 3; limit++) {
            x.run(limit);
            check.due("run(" + limit + ") of 2", x.result(12), limit >= 2 ? 1 : 0);
        }
        RowImprover halt = Desk.repeated(3, Desk.HALT, 0, 0, 0);
        halt.run(0);
        check.due("before HALT", halt.result(12), 0);
        halt.run(1);
        check.due("behind HALT, with instructions behind it", halt.result(12), 1);
        halt.replace(0, Desk.JUMP, 0, 0, 0);
        halt.run(500);
        check.due("in a round without end", halt.result(12), 0);
    }

    private static void resultTellsThePlace() {
        check.sentence("Promise 9: 13 the place where one would go on (that behind HALT, after"
                + " HALT)");
        RowImprover last = Desk.repeated(23, Desk.LOAD, 1, 0, 0);
        last.add(Desk.HALT, 0, 0, 0);
        check.due("before the first run", last.result(13), 0);
        last.run(23);
        endDue("before HALT at 23", last, 0, 23);
        last.run(24);
        endDue("behind HALT at 23", last, 1, 24);
        RowImprover first = Desk.repeated(24, Desk.HALT, 0, 0, 0);
        first.run(500);
        endDue("behind HALT at 0", first, 1, 1);
        for (int target = 1; target <= 24; target++) {
            RowImprover out = Desk.typed(Desk.JUMP, 0, 0, target);
            out.run(500);
            endDue("JUMP out to " + target, out, 1, target);
        }
        RowImprover round = Desk.typed(Desk.JUMP, 0, 0, 0);
        round.run(500);
        endDue("JUMP to itself", round, 0, 0);
    }

    private static void resultOfAnotherWhat() {
        check.sentence("Promise 9: NONE for another what.");
        for (int what : Desk.outside(0, 13)) {
            check.due("result(" + what + ")", Desk.experienced().result(what), -1);
            check.due("new: result(" + what + ")", new RowImprover().result(what), -1);
        }
    }

    // The machine

    private static void arithmeticIsModulo16() {
        check.sentence("Promise 8: all arithmetic is modulo 16");
        for (int operation : new int[] {Desk.ADD, Desk.ADDN}) {
            afterDue(operation, 0, 0, 0);
            afterDue(operation, 0, 15, 15);
            afterDue(operation, 15, 0, 15);
            afterDue(operation, 7, 8, 15);
            afterDue(operation, 8, 8, 0);
            afterDue(operation, 15, 1, 0);
            afterDue(operation, 1, 15, 0);
            afterDue(operation, 15, 15, 14);
        }
        afterDue(Desk.SUB, 15, 15, 0);
        afterDue(Desk.SUB, 15, 0, 15);
        afterDue(Desk.SUB, 0, 0, 0);
        afterDue(Desk.SUB, 0, 1, 15);
        afterDue(Desk.SUB, 0, 15, 1);
        afterDue(Desk.SUB, 7, 8, 15);
        afterDue(Desk.SUB, 8, 7, 1);
        // Wrapped values are values like others: they are compared, stored and used as such.
        RowImprover x = Desk.typed(Desk.SUB, 1, 0, 2, Desk.LESS, 3, 2, 1, Desk.STORE, 1, 0, 0,
                Desk.ADDN, 1, 1, 1, Desk.SAME, 1, 0, 6, Desk.STORE, 3, 0, 1);
        x.start(2, 1);
        check.due("run of 0 - 1 + 1", x.run(500), 5);
        check.due("0 - 1 is 15", x.result(4), 15);
        check.due("1 is less than 0 - 1", x.result(3), 1);
        check.due("15 + 1 is 0", x.result(1), 0);
        check.due("cell 1 is left out", x.result(5), 0);
    }

    private static void shiftsFallOff() {
        check.sentence("Promise 8: SHIFT: S * 2^T (modulo 16)");
        afterDue(Desk.SHIFT, 15, 0, 15);
        afterDue(Desk.SHIFT, 0, 15, 0);
        afterDue(Desk.SHIFT, 1, 3, 8);
        afterDue(Desk.SHIFT, 1, 4, 0);
        afterDue(Desk.SHIFT, 2, 3, 0);
        afterDue(Desk.SHIFT, 8, 1, 0);
        afterDue(Desk.SHIFT, 9, 1, 2);
        afterDue(Desk.SHIFT, 15, 1, 14);
        afterDue(Desk.SHIFT, 15, 2, 12);
        afterDue(Desk.SHIFT, 15, 3, 8);
        for (int t = 4; t <= 15; t++) {
            afterDue(Desk.SHIFT, 15, t, 0);
            afterDue(Desk.SHIFT, 1, t, 0);
        }
    }

    private static void lessAtItsEdges() {
        check.sentence("Promise 8: LESS: 1 if S is less than T, else 0.");
        afterDue(Desk.LESS, 0, 0, 0);
        afterDue(Desk.LESS, 0, 1, 1);
        afterDue(Desk.LESS, 1, 0, 0);
        afterDue(Desk.LESS, 7, 8, 1);
        afterDue(Desk.LESS, 8, 7, 0);
        afterDue(Desk.LESS, 0, 15, 1);
        afterDue(Desk.LESS, 15, 0, 0);
        afterDue(Desk.LESS, 14, 15, 1);
        afterDue(Desk.LESS, 15, 15, 0);
    }

    private static void bitByBit() {
        check.sentence("Promise 8: 2 AND, 3 OR, 4 XOR: bit by bit. .. 7 ANDN. 8 XORN: likewise.");
        for (int operation : new int[] {Desk.AND, Desk.ANDN}) {
            afterDue(operation, 15, 15, 15);
            afterDue(operation, 15, 0, 0);
            afterDue(operation, 12, 10, 8);
        }
        for (int operation : new int[] {Desk.XOR, Desk.XORN}) {
            afterDue(operation, 15, 15, 0);
            afterDue(operation, 0, 15, 15);
            afterDue(operation, 12, 10, 6);
        }
        afterDue(Desk.OR, 15, 15, 15);
        afterDue(Desk.OR, 0, 0, 0);
        afterDue(Desk.OR, 12, 10, 14);
    }

    private static void register0IsAlways0() {
        check.sentence("Promise 8: register 0 is always 0 (what is written there is lost)");
        for (int operation = Desk.ADD; operation <= Desk.LOAD; operation++) {
            RowImprover x = Desk.typed(operation, 0, 2, 1, Desk.ADD, 3, 0, 0,
                    Desk.STORE, 0, 0, 7, Desk.SAME, 0, 3, 9, Desk.HALT, 0, 0, 0);
            for (int number = 1; number <= 11; number++) {
                x.start(number, 7);
            }
            x.start(2, 5);
            x.run(2);
            check.due("register 0 behind operation " + operation, x.result(0), 0);
            check.due("register 0 as it is read", x.result(3), 0);
            check.due("register 1 stays", x.result(1), 7);
            check.due("register 2 stays", x.result(2), 5);
            x.run(500);
            check.due("register 0 as it is stored", x.result(11), 0);
            check.due("register 0 as it is compared", x.result(13), 9);
        }
    }

    private static void cellsAreModulo8() {
        check.sentence("Promise 8: the cell of the number (S + T) modulo 8, T 0 .. 7");
        int[][] cells = {{0, 0, 0}, {0, 7, 7}, {7, 0, 7}, {1, 7, 0}, {7, 1, 0}, {8, 0, 0},
            {7, 7, 6}, {8, 7, 7}, {9, 7, 0}, {15, 0, 7}, {15, 1, 0}, {15, 7, 6}};
        for (int[] i : cells) {
            RowImprover x = Desk.typed(Desk.LOAD, 1, 2, i[1], Desk.STORE, 3, 2, i[1]);
            for (int cell = 0; cell < 8; cell++) {
                x.start(4 + cell, cell + 2);
            }
            x.start(2, i[0]);
            x.start(3, 15);
            x.run(500);
            String when = "S " + i[0] + ", T " + i[1];
            check.due(when + ": LOAD", x.result(1), i[2] + 2);
            for (int cell = 0; cell < 8; cell++) {
                check.due(when + ": cell " + cell + " behind STORE",
                        x.result(4 + cell), cell == i[2] ? 15 : cell + 2);
            }
        }
    }

    private static void branchesToTheLeastAndTheGreatest() {
        check.sentence("Promise 8: one goes on at the place T, 0 .. 24");
        for (int operation = Desk.SAME; operation <= Desk.JUMP; operation++) {
            int d = operation == Desk.OTHER ? 1 : 0;
            for (int target = 0; target <= 24; target++) {
                RowImprover x = Desk.repeated(24, Desk.ADD, 2, 2, 0);
                x.start(1, 3);
                x.replace(5, operation, d, 0, target);
                check.due("run(6)", x.run(6), 6);
                endDue("operation " + operation + " to " + target + " of 24", x,
                        target == 24 ? 1 : 0, target);
            }
        }
    }

    private static void branchesOnEqualAndDiffering() {
        check.sentence("Promise 8: SAME: if D and S are equal .. OTHER: if they differ.");
        int[][] pairs = {{0, 0}, {15, 15}, {7, 7}, {0, 15}, {15, 0}, {7, 8}, {0, 1}, {0, 8}};
        for (int[] pair : pairs) {
            RowImprover x = Desk.typed(Desk.SAME, 1, 2, 17, Desk.HALT, 0, 0, 0);
            x.start(1, pair[0]);
            x.start(2, pair[1]);
            boolean equal = pair[0] == pair[1];
            x.run(1);
            endDue("SAME of " + pair[0] + " and " + pair[1], x, equal ? 1 : 0, equal ? 17 : 1);
            x.replace(0, Desk.OTHER, 1, 2, 17);
            x.run(1);
            endDue("OTHER of " + pair[0] + " and " + pair[1], x, equal ? 0 : 1, equal ? 1 : 17);
            for (int what = 1; what <= 2; what++) {
                check.due("register " + what + " stays", x.result(what), pair[what - 1]);
            }
        }
    }

    private static void placesWithoutInstruction() {
        check.sentence("Promise 8: One goes on at the next place otherwise; at a place where there"
                + " is no instruction the program is at its end, as it is behind HALT.");
        for (int operation = Desk.ADD; operation <= Desk.HALT; operation++) {
            RowImprover x = Desk.typed(operation, 0, 0, 0);
            boolean round = operation == Desk.SAME || operation == Desk.JUMP;
            check.due("run(500) of operation " + operation, x.run(500), round ? 500 : 1);
            endDue("operation " + operation + " alone", x, round ? 0 : 1, round ? 0 : 1);
        }
        RowImprover behind = Desk.typed(Desk.JUMP, 0, 0, 2, Desk.HALT, 0, 0, 0);
        behind.run(500);
        endDue("JUMP to the size", behind, 1, 2);
        behind.add(Desk.HALT, 0, 0, 0);
        behind.run(1);
        endDue("JUMP to the last", behind, 0, 2);
    }
}
