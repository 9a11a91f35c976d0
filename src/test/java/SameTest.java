/** Promise 12: same. */
final class SameTest {
    private static final int LEAST = Integer.MIN_VALUE;
    private static final int MOST = Integer.MAX_VALUE;

    private static final Check check = new Check();

    public static void main(String[] args) {
        rowsThatAgree();
        rareDifferences();
        rowsNeedNoBlock();
        emptyRows();
        wrongInputs();
        orderOfRefusals();
        check.end();
    }

    private static void sameDue(String when, RowImprover x, int p, int n, int q, int m,
            int registers, boolean due) {
        String call = "same(" + p + ", " + n + ", " + q + ", " + m + ", " + registers + ")";
        check.due(when + ": " + call, x.same(p, n, q, m, registers), due);
        check.due(when + ": " + call + " the other way", x.same(q, m, p, n, registers), due);
    }

    private static void rowsThatAgree() {
        RowImprover x = Desk.typed(
                Desk.XORN, 1, 1, 15, Desk.ADDN, 1, 1, 1,
                Desk.SUB, 1, 0, 1,
                Desk.ADD, 2, 2, 2, Desk.ADD, 2, 2, 2,
                Desk.SHIFT, 2, 2, 2,
                Desk.XOR, 1, 1, 2, Desk.XOR, 2, 1, 2, Desk.XOR, 1, 1, 2,
                Desk.ADDN, 3, 1, 0, Desk.ADDN, 1, 2, 0, Desk.ADDN, 2, 3, 0);
        sameDue("minus", x, 0, 2, 2, 1, 15, true);
        sameDue("times four", x, 3, 2, 5, 1, 15, true);
        sameDue("half of it", x, 3, 1, 5, 1, 4, false);
        sameDue("half of it, elsewhere", x, 3, 1, 5, 1, 11, true);
        sameDue("exchanged", x, 6, 3, 9, 3, 6, true);
        sameDue("exchanged by register 3", x, 6, 3, 9, 3, 14, false);
        sameDue("exchanged by register 3 alone", x, 6, 3, 9, 3, 8, false);
        sameDue("none compared", x, 0, 1, 9, 3, 0, true);
        sameDue("register 0 alone", x, 0, 1, 9, 3, 1, true);
        for (int place = 0; place < 10; place++) {
            sameDue("itself", x, place, 3, place, 3, 15, true);
        }
        RowImprover zero = Desk.typed(Desk.ADDN, 0, 1, 5, Desk.SHIFT, 1, 1, 4, Desk.AND, 1, 1, 0);
        sameDue("written to register 0", zero, 0, 1, 0, 0, 15, true);
        sameDue("shifted out", zero, 1, 1, 2, 1, 15, true);
    }

    /** Rows that differ in few states, so that none may be left out. */
    private static void rareDifferences() {
        RowImprover one = Desk.typed(
                Desk.OR, 1, 1, 2, Desk.OR, 1, 1, 3, Desk.LESS, 1, 0, 1, Desk.ADDN, 1, 0, 1);
        for (int again = 0; again < 3; again++) {
            sameDue("but where all are 0", one, 0, 3, 3, 1, 2, false);
        }
        for (int v = 0; v < 16; v++) {
            RowImprover x = Desk.typed(
                    Desk.XORN, 1, 1, v, Desk.OR, 1, 1, 2, Desk.LESS, 1, 0, 1,
                    Desk.ADDN, 1, 0, 1,
                    Desk.XORN, 2, 1, v, Desk.LESS, 1, 0, 2);
            sameDue("but where 1 is " + v + " and 2 is 0", x, 0, 3, 3, 1, 2, false);
            sameDue("but where 1 is " + v, x, 4, 2, 3, 1, 2, false);
        }
        RowImprover x = Desk.typed(
                Desk.AND, 1, 1, 2, Desk.AND, 1, 1, 3,
                Desk.LESS, 2, 1, 0, Desk.AND, 1, 1, 2,
                Desk.AND, 1, 3, 1, Desk.AND, 1, 2, 1,
                Desk.ANDN, 1, 1, 0);
        sameDue("0 is more than none", x, 2, 2, 6, 1, 2, true);
        sameDue("AND of three", x, 0, 2, 4, 2, 15, true);
        sameDue("AND of three is not 0", x, 0, 2, 6, 1, 2, false);
    }

    private static void rowsNeedNoBlock() {
        RowImprover x = Desk.typed(Desk.ADDN, 1, 1, 1, Desk.ADDN, 1, 1, 1, Desk.ADDN, 1, 1, 2,
                Desk.SAME, 1, 2, 1);
        sameDue("over the begin of a block", x, 0, 2, 2, 1, 15, true);
        check.due("there is a begin", x.block(1), 1);
    }

    private static void emptyRows() {
        RowImprover empty = new RowImprover();
        sameDue("none", empty, 0, 0, 0, 0, 15, true);
        RowImprover x = Desk.typed(Desk.ADD, 1, 1, 0, Desk.ADD, 1, 1, 1, Desk.HALT, 0, 0, 0);
        sameDue("nothing", x, 0, 1, 3, 0, 15, true);
        sameDue("not nothing", x, 1, 1, 3, 0, 2, false);
        sameDue("none at HALT", x, 2, 0, 0, 0, 15, true);
        // None at all are there at every place.
        sameDue("none below", x, -1, 0, 0, 0, 15, true);
        sameDue("none above", x, MOST, 0, LEAST, 0, 15, true);
    }

    private static void refused(RowImprover x, Class<? extends RuntimeException> want,
            int p, int n, int q, int m, int registers) {
        String call = "same(" + p + ", " + n + ", " + q + ", " + m + ", " + registers + ")";
        Desk.refused(check, x, call, want, () -> x.same(p, n, q, m, registers) ? 1 : 0);
    }

    private static void wrongInputs() {
        RowImprover x = Desk.typed(Desk.ADD, 1, 1, 0, Desk.ADD, 1, 1, 1, Desk.SUB, 3, 2, 1,
                Desk.ADD, 2, 2, 2);
        for (int wrong : new int[] {LEAST, -1, 4, 24, MOST}) {
            refused(x, Desk.ARGUMENT, 0, wrong, 0, 1, 15);
            refused(x, Desk.ARGUMENT, 0, 1, 0, wrong, 15);
        }
        for (int wrong : new int[] {LEAST, -1, 16, MOST}) {
            refused(x, Desk.ARGUMENT, 0, 1, 0, 1, wrong);
        }
        for (int n = 1; n <= 3; n++) {
            for (int place : new int[] {LEAST, -1, 5 - n, 4, 24, MOST - 2, MOST}) {
                refused(x, Desk.INDEX, place, n, 0, 1, 15);
                refused(x, Desk.INDEX, 0, 1, place, n, 15);
                refused(x, Desk.INDEX, 0, 0, place, n, 0);
            }
            check.due("the last " + n, x.same(4 - n, n, 4 - n, n, 15), true);
        }
    }

    private static void orderOfRefusals() {
        for (int operation = Desk.LOAD; operation <= Desk.HALT; operation++) {
            RowImprover x = Desk.typed(Desk.ADD, 1, 1, 1, operation, 0, 0, 0, Desk.ADD, 1, 1, 1);
            refused(x, Desk.UNSUPPORTED, 1, 1, 0, 1, 0);
            refused(x, Desk.UNSUPPORTED, 0, 1, 1, 1, 0);
            refused(x, Desk.UNSUPPORTED, 0, 2, 0, 2, 15);
            refused(x, Desk.UNSUPPORTED, 0, 3, 0, 0, 15);
            refused(x, Desk.INDEX, 1, 3, 0, 1, 15);
            refused(x, Desk.INDEX, 1, 1, 3, 1, 15);
            refused(x, Desk.ARGUMENT, 1, 1, 9, 1, 16);
            refused(x, Desk.ARGUMENT, 9, 4, 1, 1, 0);
            check.due("plain ones beside it", x.same(0, 1, 2, 1, 15), true);
        }
    }
}
