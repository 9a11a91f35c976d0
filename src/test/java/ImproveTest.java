/** Promises 13 and 14: improve, count. */
final class ImproveTest {
    private static final Check check = new Check();

    public static void main(String[] args) {
        byOne();
        firstCandidateIsTaken();
        numbersOfTheRow();
        targetsMove();
        check.end();
    }

    private static void improveDue(String when, RowImprover x, int less, int... program) {
        check.due(when + ": improve()", x.improve(), less);
        Desk.programDue(check, when, x, program);
    }

    private static void byOne() {
        RowImprover two = Desk.typed(Desk.XORN, 2, 2, 15, Desk.ADDN, 2, 2, 1);
        improveDue("minus", two, 1, Desk.SUB, 2, 0, 2);
        check.due("minus: count(1)", two.count(1), 0);
        RowImprover three = Desk.typed(Desk.ADDN, 1, 2, 3, Desk.XOR, 1, 1, 1, Desk.OR, 1, 1, 3);
        improveDue("three", three, 2, Desk.ADD, 1, 0, 3);
        Desk.countsDue(check, "three", three, 1, 0, 1 + 4);
    }

    /** The order is operation, D, S, T; the row itself could stay with an operation further on. */
    private static void firstCandidateIsTaken() {
        RowImprover copy = Desk.typed(Desk.OR, 3, 2, 2, Desk.AND, 3, 3, 3);
        improveDue("a copy", copy, 1, Desk.ADD, 3, 0, 2);
        Desk.countsDue(check, "a copy", copy, 1, 0, 1 + 32 + 3);
        RowImprover twice = Desk.typed(Desk.SHIFT, 2, 3, 1, Desk.OR, 2, 2, 0);
        improveDue("twice", twice, 1, Desk.ADD, 2, 3, 3);
        RowImprover zero = Desk.typed(Desk.XOR, 2, 3, 3, Desk.ANDN, 2, 2, 7);
        improveDue("zero", zero, 1, Desk.ADD, 2, 0, 0);
        Desk.countsDue(check, "zero", zero, 1, 0, 1 + 16 + 1);
        RowImprover sum = Desk.typed(Desk.ADD, 3, 2, 1, Desk.OR, 3, 3, 3);
        improveDue("the lesser S first", sum, 1, Desk.ADD, 3, 1, 2);
        RowImprover less = Desk.typed(Desk.LESS, 1, 3, 2, Desk.ANDN, 1, 1, 1);
        improveDue("LESS", less, 1, Desk.LESS, 1, 3, 2);
    }

    private static void numbersOfTheRow() {
        improveDue("a number of the row", Desk.typed(Desk.ADDN, 1, 2, 6, Desk.OR, 1, 1, 1), 1,
                Desk.ADDN, 1, 2, 6);
        improveDue("no number of the row", Desk.typed(Desk.ADDN, 1, 2, 3, Desk.ADDN, 1, 1, 4), 0,
                Desk.ADDN, 1, 2, 3, Desk.ADDN, 1, 1, 4);
        improveDue("the number of another operation",
                Desk.typed(Desk.XORN, 1, 0, 6, Desk.ADD, 1, 1, 2), 1, Desk.ADDN, 1, 2, 6);
        // The T of ADD is a register, so 3 is no number of the row.
        improveDue("a register is no number",
                Desk.typed(Desk.ADDN, 1, 1, 2, Desk.ADD, 2, 0, 3, Desk.ADDN, 1, 1, 1,
                        Desk.LOAD, 2, 0, 0), 1,
                Desk.ADDN, 1, 1, 2, Desk.ADDN, 1, 1, 1, Desk.LOAD, 2, 0, 0);
        improveDue("shifted by a number of another operation",
                Desk.typed(Desk.SHIFT, 1, 2, 1, Desk.SHIFT, 1, 1, 1, Desk.ANDN, 1, 1, 2), 2,
                Desk.ADD, 1, 0, 0);
        improveDue("shifted twice",
                Desk.typed(Desk.SHIFT, 1, 2, 1, Desk.SHIFT, 1, 1, 2, Desk.ANDN, 1, 1, 15), 1,
                Desk.SHIFT, 1, 2, 1, Desk.SHIFT, 1, 1, 2);
    }

    private static void targetsMove() {
        RowImprover x = Desk.typed(
                Desk.SAME, 1, 2, 1,
                Desk.ADDN, 3, 3, 8, Desk.ADDN, 3, 3, 8,
                Desk.OTHER, 1, 2, 3,
                Desk.SAME, 1, 2, 0,
                Desk.JUMP, 0, 0, 24,
                Desk.JUMP, 0, 0, 1,
                Desk.JUMP, 0, 0, 8);
        improveDue("two go at place 1", x, 2,
                Desk.SAME, 1, 2, 1,
                Desk.OTHER, 1, 2, 1,
                Desk.SAME, 1, 2, 0,
                Desk.JUMP, 0, 0, 22,
                Desk.JUMP, 0, 0, 1,
                Desk.JUMP, 0, 0, 6);
        RowImprover one = Desk.typed(
                Desk.XORN, 1, 1, 15, Desk.ADDN, 1, 1, 1, Desk.ADD, 2, 2, 0,
                Desk.SAME, 1, 2, 3,
                Desk.SAME, 1, 2, 0,
                Desk.JUMP, 0, 0, 6);
        improveDue("three become one", one, 2,
                Desk.SUB, 1, 0, 1,
                Desk.SAME, 1, 2, 1,
                Desk.SAME, 1, 2, 0,
                Desk.JUMP, 0, 0, 4);
    }
}
