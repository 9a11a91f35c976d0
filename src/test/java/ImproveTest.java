/** Promises 13 and 14: improve, count. */
final class ImproveTest {
    private static final Check check = new Check();

    public static void main(String[] args) {
        nothingToDo();
        byNothing();
        byOne();
        firstCandidateIsTaken();
        numbersOfTheRow();
        longestRowFirst();
        onlyLiveRegistersCount();
        blocksAndPlainOnly();
        targetsMove();
        goesOnBehind();
        liveIsFoundAnew();
        countsOfCandidates();
        countsGoOn();
        check.end();
    }

    private static void improveDue(String when, RowImprover x, int less, int... program) {
        check.due(when + ": improve()", x.improve(), less);
        Desk.programDue(check, when, x, program);
    }

    private static void countsDue(String when, RowImprover x, int rows, int nothing, int looked) {
        check.due(when + ": count(0)", x.count(0), rows);
        check.due(when + ": count(1)", x.count(1), nothing);
        check.due(when + ": count(2)", x.count(2), looked);
    }

    private static void nothingToDo() {
        RowImprover empty = new RowImprover();
        improveDue("none", empty, 0);
        countsDue("none", empty, 0, 0, 0);
        RowImprover x = Desk.typed(Desk.LOAD, 1, 1, 0, Desk.STORE, 1, 0, 0, Desk.SAME, 0, 0, 3,
                Desk.OTHER, 0, 0, 4, Desk.JUMP, 0, 0, 5, Desk.HALT, 0, 0, 0);
        improveDue("none plain", x, 0, Desk.LOAD, 1, 1, 0, Desk.STORE, 1, 0, 0, Desk.SAME, 0, 0, 3,
                Desk.OTHER, 0, 0, 4, Desk.JUMP, 0, 0, 5, Desk.HALT, 0, 0, 0);
        countsDue("none plain", x, 0, 0, 0);
    }

    private static void byNothing() {
        RowImprover one = Desk.typed(Desk.ADD, 1, 0, 1);
        improveDue("one", one, 1);
        countsDue("one", one, 1, 1, 1);
        RowImprover lost = Desk.typed(Desk.ADDN, 0, 1, 5, Desk.HALT, 0, 0, 0);
        improveDue("lost in register 0", lost, 1, Desk.HALT, 0, 0, 0);
        countsDue("lost in register 0", lost, 1, 1, 1);
        RowImprover back = Desk.typed(Desk.ADD, 1, 1, 2, Desk.SUB, 1, 1, 2);
        improveDue("there and back", back, 2);
        countsDue("there and back", back, 1, 1, 1);
        RowImprover thrice = Desk.typed(Desk.ADDN, 3, 3, 5, Desk.ADDN, 3, 3, 5, Desk.ADDN, 3, 3, 6);
        improveDue("16 in three", thrice, 3);
        countsDue("16 in three", thrice, 1, 1, 1);
        // One instruction is replaced by nothing alone, not by a plainer one.
        RowImprover kept = Desk.typed(Desk.ADDN, 1, 2, 0);
        improveDue("one by one", kept, 0, Desk.ADDN, 1, 2, 0);
        countsDue("one by one", kept, 0, 0, 1);
    }

    private static void byOne() {
        improveDue("1 but where all are 0",
                Desk.typed(Desk.OR, 1, 1, 2, Desk.OR, 1, 1, 3, Desk.LESS, 1, 0, 1), 0,
                Desk.OR, 1, 1, 2, Desk.OR, 1, 1, 3, Desk.LESS, 1, 0, 1);
        RowImprover two = Desk.typed(Desk.XORN, 2, 2, 15, Desk.ADDN, 2, 2, 1);
        improveDue("minus", two, 1, Desk.SUB, 2, 0, 2);
        check.due("minus: count(1)", two.count(1), 0);
        RowImprover three = Desk.typed(Desk.ADDN, 1, 2, 3, Desk.XOR, 1, 1, 1, Desk.OR, 1, 1, 3);
        improveDue("three", three, 2, Desk.ADD, 1, 0, 3);
        countsDue("three", three, 1, 0, 1 + 4);
        // Nothing comes before one instruction, though ADD 1 1 0 would do as well.
        RowImprover nothing = Desk.typed(Desk.XORN, 1, 1, 9, Desk.XORN, 1, 1, 9);
        improveDue("nothing first", nothing, 2);
    }

    /** The order is operation, D, S, T; the row itself could stay with an operation further on. */
    private static void firstCandidateIsTaken() {
        RowImprover copy = Desk.typed(Desk.OR, 3, 2, 2, Desk.AND, 3, 3, 3);
        improveDue("a copy", copy, 1, Desk.ADD, 3, 0, 2);
        countsDue("a copy", copy, 1, 0, 1 + 32 + 3);
        RowImprover twice = Desk.typed(Desk.SHIFT, 2, 3, 1, Desk.OR, 2, 2, 0);
        improveDue("twice", twice, 1, Desk.ADD, 2, 3, 3);
        RowImprover zero = Desk.typed(Desk.XOR, 2, 3, 3, Desk.ANDN, 2, 2, 7);
        improveDue("zero", zero, 1, Desk.ADD, 2, 0, 0);
        countsDue("zero", zero, 1, 0, 1 + 16 + 1);
        RowImprover sum = Desk.typed(Desk.ADD, 3, 2, 1, Desk.OR, 3, 3, 3);
        improveDue("the lesser S first", sum, 1, Desk.ADD, 3, 1, 2);
        RowImprover less = Desk.typed(Desk.LESS, 1, 3, 2, Desk.ANDN, 1, 1, 1);
        improveDue("LESS", less, 1, Desk.LESS, 1, 3, 2);
    }

    private static void numbersOfTheRow() {
        improveDue("a number of the row", Desk.typed(Desk.ADDN, 1, 2, 6, Desk.OR, 1, 1, 1), 1,
                Desk.ADDN, 1, 2, 6);
        improveDue("no number of the row", Desk.typed(Desk.ADDN, 1, 2, 3, Desk.ADDN, 1, 1, 4), 0,
                Desk.ADDN, 1, 2, 3, Desk.ADDN, 1, 1, 4);
        improveDue("15 is always tried", Desk.typed(Desk.ADDN, 1, 2, 7, Desk.ADDN, 1, 1, 8), 1,
                Desk.ADDN, 1, 2, 15);
        improveDue("1 is always tried", Desk.typed(Desk.ADDN, 1, 2, 9, Desk.ADDN, 1, 1, 8), 1,
                Desk.ADDN, 1, 2, 1);
        improveDue("the number of another operation",
                Desk.typed(Desk.XORN, 1, 0, 6, Desk.ADD, 1, 1, 2), 1, Desk.ADDN, 1, 2, 6);
        // The T of ADD is a register, so 3 is no number of this row.
        improveDue("a register is no number",
                Desk.typed(Desk.ADDN, 1, 1, 2, Desk.ADD, 3, 0, 0, Desk.ADDN, 1, 1, 1), 0,
                Desk.ADDN, 1, 1, 2, Desk.ADD, 3, 0, 0, Desk.ADDN, 1, 1, 1);
        improveDue("shifted by a number of another operation",
                Desk.typed(Desk.SHIFT, 1, 2, 1, Desk.SHIFT, 1, 1, 1, Desk.ANDN, 1, 1, 2), 2,
                Desk.ADD, 1, 0, 0);
        improveDue("shifted twice",
                Desk.typed(Desk.SHIFT, 1, 2, 1, Desk.SHIFT, 1, 1, 2, Desk.ANDN, 1, 1, 15), 1,
                Desk.SHIFT, 1, 2, 1, Desk.SHIFT, 1, 1, 2);
    }

    private static void longestRowFirst() {
        RowImprover x = Desk.typed(Desk.ADD, 1, 1, 0, Desk.ADDN, 2, 2, 1, Desk.ADDN, 2, 2, 15);
        improveDue("three by nothing", x, 3);
        countsDue("three by nothing", x, 1, 1, 1);
        RowImprover y = Desk.typed(Desk.ADD, 1, 1, 0, Desk.ADD, 2, 2, 0, Desk.LOAD, 3, 0, 0);
        improveDue("two by nothing", y, 2, Desk.LOAD, 3, 0, 0);
        countsDue("two by nothing", y, 1, 1, 1);
        // The row of 3 has no replacement; that of 2 has one before that of 1 is looked at.
        RowImprover z = Desk.typed(Desk.ADD, 1, 1, 0, Desk.ADDN, 2, 3, 1, Desk.ADD, 3, 1, 1);
        improveDue("two by one", z, 1, Desk.ADDN, 2, 3, 1, Desk.ADD, 3, 1, 1);
        check.due("two by one: count(0)", z.count(0), 1);
        check.due("two by one: count(1)", z.count(1), 0);
    }

    private static void onlyLiveRegistersCount() {
        improveDue("dead before it is written",
                Desk.typed(Desk.ADDN, 1, 2, 6, Desk.LOAD, 1, 0, 0), 1, Desk.LOAD, 1, 0, 0);
        improveDue("live at STORE",
                Desk.typed(Desk.ADDN, 1, 2, 6, Desk.STORE, 1, 0, 0, Desk.LOAD, 1, 0, 0), 0,
                Desk.ADDN, 1, 2, 6, Desk.STORE, 1, 0, 0, Desk.LOAD, 1, 0, 0);
        improveDue("live before HALT", Desk.typed(Desk.ADDN, 1, 2, 6, Desk.HALT, 0, 0, 0), 0,
                Desk.ADDN, 1, 2, 6, Desk.HALT, 0, 0, 0);
        improveDue("dead in a round without end",
                Desk.typed(Desk.ADDN, 1, 2, 6, Desk.JUMP, 0, 0, 0), 1, Desk.JUMP, 0, 0, 0);
        improveDue("a help that is dead behind the row",
                Desk.typed(Desk.ADDN, 3, 2, 0, Desk.ADD, 1, 3, 3, Desk.LOAD, 3, 0, 0), 1,
                Desk.ADD, 1, 2, 2, Desk.LOAD, 3, 0, 0);
        improveDue("a help that is live behind the row",
                Desk.typed(Desk.ADDN, 3, 2, 0, Desk.ADD, 1, 3, 3), 0,
                Desk.ADDN, 3, 2, 0, Desk.ADD, 1, 3, 3);
    }

    private static void blocksAndPlainOnly() {
        // The T of SAME parts what would cancel.
        improveDue("parted by a begin",
                Desk.typed(Desk.ADDN, 1, 1, 1, Desk.ADDN, 1, 1, 15, Desk.SAME, 1, 2, 1), 0,
                Desk.ADDN, 1, 1, 1, Desk.ADDN, 1, 1, 15, Desk.SAME, 1, 2, 1);
        improveDue("begun by a begin",
                Desk.typed(Desk.ADDN, 1, 1, 1, Desk.ADDN, 1, 1, 15, Desk.SAME, 1, 2, 0), 2,
                Desk.SAME, 1, 2, 0);
        improveDue("parted by LOAD",
                Desk.typed(Desk.ADDN, 1, 1, 1, Desk.LOAD, 2, 0, 0, Desk.ADDN, 1, 1, 15), 0,
                Desk.ADDN, 1, 1, 1, Desk.LOAD, 2, 0, 0, Desk.ADDN, 1, 1, 15);
        improveDue("three parted",
                Desk.typed(Desk.ADDN, 1, 1, 5, Desk.ADDN, 1, 1, 5, Desk.ADDN, 1, 1, 6,
                        Desk.OTHER, 1, 2, 2), 0,
                Desk.ADDN, 1, 1, 5, Desk.ADDN, 1, 1, 5, Desk.ADDN, 1, 1, 6, Desk.OTHER, 1, 2, 2);
    }

    private static void targetsMove() {
        RowImprover x = Desk.typed(
                Desk.SAME, 1, 2, 1,
                Desk.ADDN, 3, 3, 8, Desk.ADDN, 3, 3, 8,
                Desk.OTHER, 1, 2, 3,
                Desk.SAME, 1, 2, 0,
                Desk.JUMP, 0, 0, 24,
                Desk.JUMP, 0, 0, 1,
                Desk.JUMP, 0, 0, 8);
        improveDue("two go at place 1", x, 2,
                Desk.SAME, 1, 2, 1,
                Desk.OTHER, 1, 2, 1,
                Desk.SAME, 1, 2, 0,
                Desk.JUMP, 0, 0, 22,
                Desk.JUMP, 0, 0, 1,
                Desk.JUMP, 0, 0, 6);
        RowImprover one = Desk.typed(
                Desk.XORN, 1, 1, 15, Desk.ADDN, 1, 1, 1, Desk.ADD, 2, 2, 0,
                Desk.SAME, 1, 2, 3,
                Desk.SAME, 1, 2, 0,
                Desk.JUMP, 0, 0, 6);
        improveDue("three become one", one, 2,
                Desk.SUB, 1, 0, 1,
                Desk.SAME, 1, 2, 1,
                Desk.SAME, 1, 2, 0,
                Desk.JUMP, 0, 0, 4);
        // Numbers and cells are no places and do not move.
        RowImprover still = Desk.typed(Desk.ADD, 1, 1, 0, Desk.LOAD, 1, 2, 7, Desk.STORE, 2, 1, 6,
                Desk.XORN, 1, 2, 12, Desk.STORE, 1, 2, 5);
        improveDue("numbers stay", still, 1, Desk.LOAD, 1, 2, 7, Desk.STORE, 2, 1, 6,
                Desk.XORN, 1, 2, 12, Desk.STORE, 1, 2, 5);
    }

    private static void goesOnBehind() {
        // Behind nothing one goes on at the same place: a second row falls there.
        RowImprover again = Desk.typed(
                Desk.ADDN, 1, 1, 5, Desk.ADDN, 1, 1, 5, Desk.ADDN, 1, 1, 6,
                Desk.ADDN, 2, 2, 5, Desk.ADDN, 2, 2, 5, Desk.ADDN, 2, 2, 6, Desk.ADD, 3, 3, 3);
        improveDue("twice at one place", again, 6, Desk.ADD, 3, 3, 3);
        countsDue("twice at one place", again, 2, 2, 3);
        // What came in a row's place begins no further row in the same improving.
        RowImprover chain = Desk.typed(
                Desk.ADDN, 1, 2, 1, Desk.OR, 1, 1, 1, Desk.AND, 1, 1, 1, Desk.ADDN, 1, 1, 15);
        improveDue("behind one", chain, 2, Desk.ADDN, 1, 2, 1, Desk.ADDN, 1, 1, 15);
        improveDue("improved again", chain, 1, Desk.ADD, 1, 0, 2);
        improveDue("improved once more", chain, 0, Desk.ADD, 1, 0, 2);
        RowImprover later = Desk.typed(Desk.LOAD, 3, 0, 0,
                Desk.ADDN, 1, 2, 1, Desk.OR, 1, 1, 1, Desk.AND, 1, 1, 1, Desk.ADDN, 1, 1, 15);
        improveDue("behind one at place 1", later, 2, Desk.LOAD, 3, 0, 0,
                Desk.ADDN, 1, 2, 1, Desk.ADDN, 1, 1, 15);
        RowImprover apart = Desk.typed(Desk.XORN, 1, 1, 15, Desk.ADDN, 1, 1, 1,
                Desk.STORE, 1, 0, 0, Desk.ADD, 2, 2, 0, Desk.STORE, 2, 0, 0);
        improveDue("two rows apart", apart, 2,
                Desk.SUB, 1, 0, 1, Desk.STORE, 1, 0, 0, Desk.STORE, 2, 0, 0);
        countsDue("two rows apart", apart, 2, 1, 1 + 48 + 2 + 1);
        RowImprover last = new RowImprover();
        for (int place = 0; place < 23; place++) {
            last.add(Desk.LOAD, 1, 1, 0);
        }
        last.add(Desk.ADD, 2, 2, 0);
        check.due("the last of 24: improve()", last.improve(), 1);
    }

    private static void liveIsFoundAnew() {
        // When the reader of register 2 has gone, what wrote it in the round is dead.
        RowImprover x = Desk.typed(
                Desk.JUMP, 0, 0, 3,
                Desk.ADD, 1, 2, 0,
                Desk.JUMP, 0, 0, 3,
                Desk.LOAD, 1, 0, 0,
                Desk.ADDN, 2, 0, 3,
                Desk.JUMP, 0, 0, 1);
        check.due("register 2 is live before", x.live(5), 4);
        improveDue("dead by what has gone", x, 2,
                Desk.JUMP, 0, 0, 2,
                Desk.JUMP, 0, 0, 2,
                Desk.LOAD, 1, 0, 0,
                Desk.JUMP, 0, 0, 1);
        check.due("dead by what has gone: count(1)", x.count(1), 2);
    }

    /** Six operations with 3 * 4 * 4 instructions, four with 3 * 4 a number. */
    private static int all(int numbers) {
        return 1 + 6 * 48 + 4 * 12 * numbers;
    }

    private static void countsOfCandidates() {
        RowImprover plain = Desk.typed(Desk.SUB, 1, 2, 3, Desk.SUB, 2, 3, 1, Desk.SUB, 3, 1, 2);
        improveDue("three numbers", plain, 0,
                Desk.SUB, 1, 2, 3, Desk.SUB, 2, 3, 1, Desk.SUB, 3, 1, 2);
        countsDue("three numbers", plain, 0, 0, all(3) + all(3) + 1 + all(3) + 1 + 1);
        RowImprover more = Desk.typed(Desk.ADDN, 1, 1, 4, Desk.XORN, 2, 2, 7, Desk.SHIFT, 3, 3, 2);
        check.due("six numbers: improve()", more.improve(), 0);
        countsDue("six numbers", more, 0, 0, all(6) + all(5) + 1 + all(5) + 1 + 1);
        RowImprover equal = Desk.typed(Desk.ADDN, 1, 1, 4, Desk.XORN, 2, 2, 4, Desk.ANDN, 3, 3, 1);
        check.due("equal numbers: improve()", equal.improve(), 0);
        countsDue("equal numbers", equal, 0, 0, all(4) + all(4) + 1 + all(4) + 1 + 1);
    }

    private static void countsGoOn() {
        RowImprover x = Desk.typed(Desk.ADD, 1, 1, 0, Desk.ADDN, 1, 2, 0);
        check.due("first improve()", x.improve(), 1);
        int looked = x.count(2);
        x.clear();
        countsDue("cleared", x, 1, 0, looked);
        Desk.type(x, Desk.ADD, 3, 3, 0);
        check.due("second improve()", x.improve(), 1);
        countsDue("second", x, 2, 1, looked + 1);
        x.run(5);
        check.due("an empty improve()", x.improve(), 0);
        countsDue("an empty one", x, 2, 1, looked + 1);
        for (int what : new int[] {Integer.MIN_VALUE, -1, 3, 4, Integer.MAX_VALUE}) {
            check.due("count(" + what + ")", x.count(what), RowImprover.NONE);
        }
    }
}
