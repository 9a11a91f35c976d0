/** Promises 1 to 6 at the edges that the document names, a test for each sentence. */
final class ProgramEdgesTest {
    /** The greatest D (and S) and the greatest T of each operation; the least is 0 everywhere. */
    private static final int[] GREATEST_D = {3, 3, 3, 3, 3, 3, 3, 3, 3, 3, 3, 3, 3, 3, 0, 0};
    private static final int[] GREATEST_T =
            {3, 3, 3, 3, 3, 3, 15, 15, 15, 15, 7, 7, 24, 24, 24, 0};

    private static final Check check = new Check();

    public static void main(String[] args) {
        newProgramIsEmpty();
        newStartValuesAre0();
        newLatestRunIs0();
        newObjectsShareNothing();

        addAnswersThePlace();
        addAppends();
        addTakesTheLeastAndTheGreatest();
        addOfNoOperation();
        addOfFieldsNotAsSaid();
        addOfEveryCombination();
        addWhen24AreThere();
        addAgainWhenThereIsRoom();
        addLooksAtItsFieldsFirst();

        replacePutsAnother();
        replaceTakesTheLeastAndTheGreatest();
        replaceOfWrongInstructions();
        replaceWhereNoneIsThere();
        replaceLooksAtItsFieldsFirst();

        clearedProgramIsEmpty();
        clearAnswersHowMany();
        clearLeavesTheRest();

        sizeFromNoneTo24();
        sizeBehindOtherCalls();

        instructionTellsEachPart();
        instructionOfAnotherWhat();
        instructionWhereNoneIsThere();
        instructionLooksAtWhatFirst();
        check.end();
    }

    private static long replaced(RowImprover x, int place, int operation, int d, int s, int t) {
        x.replace(place, operation, d, s, t);
        return 0;
    }

    private static RowImprover full() {
        return full(Desk.experienced());
    }

    /** Another instruction at every place, so that a place is not taken for its neighbour. */
    private static RowImprover full(RowImprover x) {
        for (int place = 0; place < 24; place++) {
            x.add(place % 14, place % 4, place / 4 % 4, place % 3);
        }
        return x;
    }

    private static RowImprover three() {
        return Desk.experienced(Desk.XORN, 3, 2, 9, Desk.SAME, 1, 2, 24, Desk.STORE, 2, 3, 7);
    }

    // Promise 1: A new object

    private static void newProgramIsEmpty() {
        check.sentence("Promise 1: An empty program");
        RowImprover x = new RowImprover();
        check.due("size()", x.size(), 0);
        check.due("run(500)", x.run(500), 0);
        check.due("live(0)", x.live(0), 14);
        check.due("improve()", x.improve(), 0);
        check.due("clear()", x.clear(), 0);
        check.due("the first add", x.add(Desk.HALT, 0, 0, 0), 0);
        Desk.refused(check, "instruction(0, 0)", Desk.INDEX, RowImprover::new,
                y -> y.instruction(0, 0));
    }

    private static void newStartValuesAre0() {
        check.sentence("Promise 1: all start values are 0");
        RowImprover x = new RowImprover();
        x.run(0);
        for (int what = 0; what <= 11; what++) {
            check.due("run(0), result(" + what + ")", x.result(what), 0);
        }
    }

    private static void newLatestRunIs0() {
        check.sentence("Promise 1: and so are those of the latest run");
        RowImprover x = new RowImprover();
        for (int what = 0; what <= 13; what++) {
            check.due("result(" + what + ")", x.result(what), 0);
        }
    }

    private static void newObjectsShareNothing() {
        check.sentence("Promise 1: a new object is new beside one that was used");
        RowImprover used = full();
        RowImprover x = new RowImprover();
        used.run(500);
        used.improve();
        check.due("size()", x.size(), 0);
        for (int what = 0; what <= 13; what++) {
            check.due("result(" + what + ")", x.result(what), 0);
        }
        for (int what = 0; what <= 2; what++) {
            check.due("count(" + what + ")", x.count(what), 0);
        }
        x.run(0);
        for (int what = 0; what <= 11; what++) {
            check.due("run(0), result(" + what + ")", x.result(what), 0);
        }
    }

    // Promise 2: add

    private static void addAnswersThePlace() {
        check.sentence("Promise 2: Appends an instruction: its place.");
        RowImprover x = new RowImprover();
        for (int place = 0; place < 24; place++) {
            check.due("add number " + place, x.add(Desk.ADDN, 1, 1, place % 16), place);
        }
        x.clear();
        check.due("add behind clear()", x.add(Desk.HALT, 0, 0, 0), 0);
        RowImprover shorter = Desk.typed(Desk.ADD, 1, 1, 0, Desk.STORE, 1, 0, 0, Desk.ADD, 1, 1, 0);
        shorter.improve();
        check.due("add behind improve()", shorter.add(Desk.HALT, 0, 0, 0), 1);
    }

    private static void addAppends() {
        check.sentence("Promise 2: Appends (what was there stays at its place)");
        RowImprover x = full();
        for (int place = 0; place < 24; place++) {
            check.due("operation at " + place, x.instruction(place, 0), place % 14);
            check.due("D at " + place, x.instruction(place, 1), place % 4);
            check.due("S at " + place, x.instruction(place, 2), place / 4 % 4);
            check.due("T at " + place, x.instruction(place, 3), place % 3);
        }
    }

    private static void addTakesTheLeastAndTheGreatest() {
        check.sentence("Promise 2: an instruction whose fields are as said is taken");
        for (int operation = 0; operation <= 15; operation++) {
            for (int corner = 0; corner < 8; corner++) {
                int d = (corner & 1) * GREATEST_D[operation];
                int s = (corner >> 1 & 1) * GREATEST_D[operation];
                int t = (corner >> 2 & 1) * GREATEST_T[operation];
                RowImprover x = Desk.typed(Desk.SUB, 1, 2, 3);
                String call = "add(" + operation + ", " + d + ", " + s + ", " + t + ")";
                check.due(call, x.add(operation, d, s, t), 1);
                Desk.programDue(check, call, x, Desk.SUB, 1, 2, 3, operation, d, s, t);
            }
        }
    }

    private static void addRefused(Desk.Maker maker, Class<? extends RuntimeException> want,
            int operation, int d, int s, int t) {
        String call = "add(" + operation + ", " + d + ", " + s + ", " + t + ")";
        Desk.refused(check, call, want, maker, x -> x.add(operation, d, s, t));
    }

    private static void addOfNoOperation() {
        check.sentence("Promise 2: IllegalArgumentException when it is no operation");
        for (int operation : Desk.outside(0, 15)) {
            addRefused(RowImprover::new, Desk.ARGUMENT, operation, 0, 0, 0);
            addRefused(ProgramEdgesTest::three, Desk.ARGUMENT, operation, 0, 0, 0);
        }
    }

    private static void addOfFieldsNotAsSaid() {
        check.sentence("Promise 2: IllegalArgumentException when .. a field is not as said");
        for (int operation = 0; operation <= 15; operation++) {
            int mostD = GREATEST_D[operation];
            int mostT = GREATEST_T[operation];
            for (int wrong : Desk.outside(0, mostD)) {
                addRefused(ProgramEdgesTest::three, Desk.ARGUMENT, operation, wrong, 0, 0);
                addRefused(ProgramEdgesTest::three, Desk.ARGUMENT, operation, 0, wrong, 0);
                addRefused(ProgramEdgesTest::three, Desk.ARGUMENT, operation, mostD, wrong, mostT);
                addRefused(ProgramEdgesTest::three, Desk.ARGUMENT, operation, wrong, mostD, mostT);
            }
            for (int wrong : Desk.outside(0, mostT)) {
                addRefused(ProgramEdgesTest::three, Desk.ARGUMENT, operation, 0, 0, wrong);
                addRefused(ProgramEdgesTest::three, Desk.ARGUMENT, operation, mostD, mostD, wrong);
            }
        }
    }

    private static boolean within(int most, int value) {
        return value >= 0 && value <= most;
    }

    /** Every operation with every field from one below the least to one above the greatest. */
    private static void addOfEveryCombination() {
        check.sentence("Promise 2: it is taken, or IllegalArgumentException, in each combination");
        for (int operation = -1; operation <= 16; operation++) {
            boolean isOperation = within(15, operation);
            int mostD = isOperation ? GREATEST_D[operation] : -1;
            int mostT = isOperation ? GREATEST_T[operation] : -1;
            for (int fields = 0; fields < 6 * 6 * 27; fields++) {
                int d = fields % 6 - 1;
                int s = fields / 6 % 6 - 1;
                int t = fields / 36 - 1;
                boolean due = within(mostD, d) && within(mostD, s) && within(mostT, t);
                String call = "add(" + operation + ", " + d + ", " + s + ", " + t + ")";
                check.due(call + " is taken", isTaken(operation, d, s, t), due);
            }
        }
    }

    private static boolean isTaken(int operation, int d, int s, int t) {
        try {
            return new RowImprover().add(operation, d, s, t) == 0;
        } catch (IllegalArgumentException e) {
            return false;
        }
    }

    private static void addWhen24AreThere() {
        check.sentence("Promise 2: else IllegalStateException when 24 are there");
        for (int operation = 0; operation <= 15; operation++) {
            addRefused(ProgramEdgesTest::full, Desk.STATE, operation, 0, 0, 0);
            addRefused(ProgramEdgesTest::full, Desk.STATE, operation, GREATEST_D[operation],
                    GREATEST_D[operation], GREATEST_T[operation]);
        }
        RowImprover x = Desk.repeated(23, Desk.LOAD, 1, 1, 0);
        check.due("add when 23 are there", x.add(Desk.LOAD, 1, 1, 0), 23);
        check.thrown("add when 24 are there", Desk.STATE, () -> x.add(Desk.LOAD, 1, 1, 0));
        check.thrown("add again", Desk.STATE, () -> x.add(Desk.LOAD, 1, 1, 0));
        check.due("size()", x.size(), 24);
    }

    private static void addAgainWhenThereIsRoom() {
        check.sentence("Promise 2: else IllegalStateException when 24 are there (and only then)");
        RowImprover refusedBefore = Desk.repeated(23, Desk.LOAD, 1, 1, 0);
        check.thrown("a wrong add", Desk.ARGUMENT, () -> refusedBefore.add(Desk.LOAD, 1, 1, 8));
        check.due("add of the 24th", refusedBefore.add(Desk.LOAD, 1, 1, 0), 23);
        RowImprover cleared = Desk.repeated(24, Desk.LOAD, 1, 1, 0);
        cleared.clear();
        check.due("add behind clear() of 24", cleared.add(Desk.LOAD, 1, 1, 0), 0);
        RowImprover improved = Desk.repeated(23, Desk.LOAD, 1, 1, 0);
        improved.add(Desk.ADD, 1, 1, 0);
        improved.improve();
        check.due("add behind improve() of 24", improved.add(Desk.LOAD, 1, 1, 0), 23);
        check.thrown("one more", Desk.STATE, () -> improved.add(Desk.LOAD, 1, 1, 0));
    }

    private static void addLooksAtItsFieldsFirst() {
        check.sentence("Promise 2: IllegalArgumentException ..; else IllegalStateException");
        for (int operation : Desk.outside(0, 15)) {
            addRefused(ProgramEdgesTest::full, Desk.ARGUMENT, operation, 0, 0, 0);
        }
        for (int operation = 0; operation <= 15; operation++) {
            int mostD = GREATEST_D[operation];
            addRefused(ProgramEdgesTest::full, Desk.ARGUMENT, operation, mostD + 1, 0, 0);
            addRefused(ProgramEdgesTest::full, Desk.ARGUMENT, operation, 0, mostD + 1, 0);
            addRefused(ProgramEdgesTest::full, Desk.ARGUMENT, operation, 0, 0, -1);
            addRefused(ProgramEdgesTest::full, Desk.ARGUMENT, operation, 0, 0,
                    GREATEST_T[operation] + 1);
        }
    }

    // Promise 3: replace

    private static void replacePutsAnother() {
        check.sentence("Promise 3: Puts another instruction at a place.");
        for (int place = 0; place < 24; place++) {
            RowImprover x = full();
            x.replace(place, Desk.SHIFT, 3, 3, 15);
            check.due("size() behind replace(" + place + ", ..)", x.size(), 24);
            for (int at = 0; at < 24; at++) {
                boolean here = at == place;
                String call = "replace(" + place + ", ..), instruction(" + at;
                check.due(call + ", 0)", x.instruction(at, 0), here ? Desk.SHIFT : at % 14);
                check.due(call + ", 1)", x.instruction(at, 1), here ? 3 : at % 4);
                check.due(call + ", 2)", x.instruction(at, 2), here ? 3 : at / 4 % 4);
                check.due(call + ", 3)", x.instruction(at, 3), here ? 15 : at % 3);
            }
        }
    }

    private static void replaceTakesTheLeastAndTheGreatest() {
        check.sentence("Promise 3: an instruction whose fields are as said is put there");
        for (int operation = 0; operation <= 15; operation++) {
            for (int corner = 0; corner < 8; corner++) {
                int d = (corner & 1) * GREATEST_D[operation];
                int s = (corner >> 1 & 1) * GREATEST_D[operation];
                int t = (corner >> 2 & 1) * GREATEST_T[operation];
                RowImprover x = Desk.typed(Desk.SUB, 1, 2, 3, Desk.JUMP, 0, 0, 24);
                x.replace(1, operation, d, s, t);
                String call = "replace(1, " + operation + ", " + d + ", " + s + ", " + t + ")";
                Desk.programDue(check, call, x, Desk.SUB, 1, 2, 3, operation, d, s, t);
            }
        }
    }

    private static void replaceRefused(Desk.Maker maker, Class<? extends RuntimeException> want,
            int place, int operation, int d, int s, int t) {
        String call = "replace(" + place + ", " + operation + ", " + d + ", " + s + ", " + t + ")";
        Desk.refused(check, call, want, maker, x -> replaced(x, place, operation, d, s, t));
    }

    private static void replaceOfWrongInstructions() {
        check.sentence("Promise 3: IllegalArgumentException as add");
        for (int operation : Desk.outside(0, 15)) {
            replaceRefused(ProgramEdgesTest::three, Desk.ARGUMENT, 1, operation, 0, 0, 0);
        }
        for (int operation = 0; operation <= 15; operation++) {
            for (int wrong : Desk.outside(0, GREATEST_D[operation])) {
                replaceRefused(ProgramEdgesTest::three, Desk.ARGUMENT, 0, operation, wrong, 0, 0);
                replaceRefused(ProgramEdgesTest::three, Desk.ARGUMENT, 2, operation, 0, wrong, 0);
            }
            for (int wrong : Desk.outside(0, GREATEST_T[operation])) {
                replaceRefused(ProgramEdgesTest::three, Desk.ARGUMENT, 1, operation, 0, 0, wrong);
            }
        }
    }

    private static void replaceWhereNoneIsThere() {
        check.sentence("Promise 3: else IndexOutOfBoundsException when none is there");
        for (int place : Desk.outside(0, 2)) {
            replaceRefused(ProgramEdgesTest::three, Desk.INDEX, place, Desk.HALT, 0, 0, 0);
        }
        replaceRefused(ProgramEdgesTest::three, Desk.INDEX, 23, Desk.HALT, 0, 0, 0);
        for (int place : Desk.outside(0, 23)) {
            replaceRefused(ProgramEdgesTest::full, Desk.INDEX, place, Desk.HALT, 0, 0, 0);
        }
        for (int place : Desk.outside(0, -1)) {
            replaceRefused(Desk::experienced, Desk.INDEX, place, Desk.HALT, 0, 0, 0);
        }
        replaceRefused(ProgramEdgesTest::shortened, Desk.INDEX, 1, Desk.HALT, 0, 0, 0);
    }

    /** Where there were instructions once, before clear() and improve(), none is there now. */
    private static RowImprover shortened() {
        RowImprover x = full();
        x.clear();
        Desk.type(x, Desk.ADD, 1, 1, 0, Desk.STORE, 1, 0, 0);
        x.improve();
        return x;
    }

    private static void replaceLooksAtItsFieldsFirst() {
        check.sentence("Promise 3: IllegalArgumentException ..; else IndexOutOfBoundsException");
        for (int place : Desk.outside(0, 2)) {
            replaceRefused(ProgramEdgesTest::three, Desk.ARGUMENT, place, 16, 0, 0, 0);
            replaceRefused(ProgramEdgesTest::three, Desk.ARGUMENT, place, Desk.ADD, 4, 0, 0);
            replaceRefused(ProgramEdgesTest::three, Desk.ARGUMENT, place, Desk.ADD, 0, 4, 0);
            replaceRefused(ProgramEdgesTest::three, Desk.ARGUMENT, place, Desk.ADD, 0, 0, 4);
        }
        replaceRefused(RowImprover::new, Desk.ARGUMENT, 0, -1, 0, 0, 0);
        replaceRefused(ProgramEdgesTest::full, Desk.ARGUMENT, 24, Desk.JUMP, 0, 0, 25);
    }

    // Promise 4: clear

    private static void clearedProgramIsEmpty() {
        check.sentence("Promise 4: The program is empty.");
        RowImprover x = full();
        x.clear();
        check.due("size()", x.size(), 0);
        check.due("run(500)", x.run(500), 0);
        check.due("result(12)", x.result(12), 1);
        check.due("result(13)", x.result(13), 0);
        check.due("live(0)", x.live(0), 14);
        check.due("improve()", x.improve(), 0);
        check.thrown("instruction(0, 0)", Desk.INDEX, () -> x.instruction(0, 0));
        check.thrown("block(0)", Desk.INDEX, () -> x.block(0));
        check.thrown("live(1)", Desk.INDEX, () -> x.live(1));
        check.thrown("same(0, 1, 0, 0, 0)", Desk.INDEX, () -> x.same(0, 1, 0, 0, 0) ? 1 : 0);
        check.thrown("replace(0, ..)", Desk.INDEX, () -> replaced(x, 0, Desk.HALT, 0, 0, 0));
        // A place of the old program is the end now: its instructions and Ts are forgotten.
        x.add(Desk.ADD, 1, 1, 1);
        x.add(Desk.ADD, 1, 1, 1);
        check.due("run(500) of two", x.run(500), 2);
        check.due("block(1) of two", x.block(1), 0);
    }

    private static void clearAnswersHowMany() {
        check.sentence("Promise 4: Answers how many instructions it had.");
        check.due("clear() of none", new RowImprover().clear(), 0);
        for (int size = 1; size <= 24; size++) {
            RowImprover x = Desk.repeated(size, Desk.LOAD, 1, 1, 0);
            check.due("clear() of " + size, x.clear(), size);
            check.due("clear() again", x.clear(), 0);
        }
        check.due("clear() behind improve()", shortened().clear(), 1);
    }

    private static void clearLeavesTheRest() {
        check.sentence("Promise 4: The program is empty (and nothing else is changed)");
        RowImprover x = Desk.experienced(Desk.ADDN, 1, 0, 1, Desk.HALT, 0, 0, 0);
        int rows = x.count(0);
        int looked = x.count(2);
        x.run(1);
        x.clear();
        check.due("count(0)", x.count(0), rows);
        check.due("count(2)", x.count(2), looked);
        check.due("result(1)", x.result(1), 1);
        Desk.experienceDue(check, "the latest run", x, 2);
        check.due("result(12)", x.result(12), 0);
        check.due("result(13)", x.result(13), 1);
        x.run(0);
        Desk.experienceDue(check, "run(0)", x, 1);
    }

    // Promise 5: size

    private static void sizeFromNoneTo24() {
        check.sentence("Promise 5: How many instructions there are.");
        RowImprover x = new RowImprover();
        for (int size = 0; size < 24; size++) {
            check.due("size()", x.size(), size);
            x.add(Desk.ADD, 1, 2, 3);
        }
        check.due("size() of the full program", x.size(), 24);
    }

    private static void sizeBehindOtherCalls() {
        check.sentence("Promise 5: How many instructions there are (behind other calls)");
        RowImprover x = full(new RowImprover());
        check.thrown("add to 24", Desk.STATE, () -> x.add(Desk.ADD, 1, 2, 3));
        check.due("size() behind a refused add", x.size(), 24);
        x.replace(23, Desk.HALT, 0, 0, 0);
        check.due("size() behind replace", x.size(), 24);
        x.run(500);
        check.due("size() behind run", x.size(), 24);
        int less = x.improve();
        check.due("size() behind improve", x.size(), 24 - less);
        x.clear();
        check.due("size() behind clear", x.size(), 0);
        check.due("size() when all has been improved away", allGone().size(), 0);
    }

    private static RowImprover allGone() {
        RowImprover x = Desk.repeated(24, Desk.ADD, 2, 2, 0);
        x.improve();
        return x;
    }

    // Promise 6: instruction

    private static void instructionTellsEachPart() {
        check.sentence("Promise 6: what = 0 its operation, 1 D, 2 S, 3 T.");
        RowImprover x = Desk.typed(Desk.SHIFT, 3, 2, 15, Desk.ADD, 0, 0, 0, Desk.OTHER, 1, 3, 24);
        int[] due = {Desk.SHIFT, 3, 2, 15, Desk.ADD, 0, 0, 0, Desk.OTHER, 1, 3, 24};
        for (int i = 0; i < due.length; i++) {
            check.due("instruction(" + i / 4 + ", " + i % 4 + ")",
                    x.instruction(i / 4, i % 4), due[i]);
        }
        RowImprover last = full(new RowImprover());
        last.replace(23, Desk.JUMP, 0, 0, 24);
        check.due("instruction(23, 0)", last.instruction(23, 0), Desk.JUMP);
        check.due("instruction(23, 3)", last.instruction(23, 3), 24);
    }

    private static void instructionRefused(Desk.Maker maker,
            Class<? extends RuntimeException> want, int place, int what) {
        String call = "instruction(" + place + ", " + what + ")";
        Desk.refused(check, call, want, maker, x -> x.instruction(place, what));
    }

    private static void instructionOfAnotherWhat() {
        check.sentence("Promise 6: IllegalArgumentException when what is none of these");
        for (int what : Desk.outside(0, 3)) {
            instructionRefused(ProgramEdgesTest::three, Desk.ARGUMENT, 0, what);
            instructionRefused(ProgramEdgesTest::three, Desk.ARGUMENT, 2, what);
            instructionRefused(ProgramEdgesTest::full, Desk.ARGUMENT, 23, what);
        }
    }

    private static void instructionWhereNoneIsThere() {
        check.sentence("Promise 6: else IndexOutOfBoundsException when none is there");
        for (int what = 0; what <= 3; what++) {
            for (int place : Desk.outside(0, 2)) {
                instructionRefused(ProgramEdgesTest::three, Desk.INDEX, place, what);
            }
            for (int place : Desk.outside(0, 23)) {
                instructionRefused(ProgramEdgesTest::full, Desk.INDEX, place, what);
            }
            for (int place : Desk.outside(0, -1)) {
                instructionRefused(Desk::experienced, Desk.INDEX, place, what);
            }
            instructionRefused(ProgramEdgesTest::three, Desk.INDEX, 23, what);
            instructionRefused(ProgramEdgesTest::shortened, Desk.INDEX, 1, what);
        }
    }

    private static void instructionLooksAtWhatFirst() {
        check.sentence("Promise 6: IllegalArgumentException ..; else IndexOutOfBoundsException");
        for (int what : Desk.outside(0, 3)) {
            instructionRefused(RowImprover::new, Desk.ARGUMENT, 0, what);
            instructionRefused(ProgramEdgesTest::three, Desk.ARGUMENT, -1, what);
            instructionRefused(ProgramEdgesTest::three, Desk.ARGUMENT, 3, what);
            instructionRefused(ProgramEdgesTest::full, Desk.ARGUMENT, 24, what);
        }
    }
}
