/** Promise 12: same. */
final class SameTest {
    private static final Check check = new Check();

    public static void main(String[] args) {
        rowsThatAgree();
        rareDifferences();
        check.end();
    }

    private static void sameDue(String when, RowImprover x, int p, int n, int q, int m,
            int registers, boolean due) {
        String call = "same(" + p + ", " + n + ", " + q + ", " + m + ", " + registers + ")";
        check.due(when + ": " + call, x.same(p, n, q, m, registers), due);
        check.due(when + ": " + call + " the other way", x.same(q, m, p, n, registers), due);
    }

    private static void rowsThatAgree() {
        RowImprover x = Desk.typed(
                Desk.XORN, 1, 1, 15, Desk.ADDN, 1, 1, 1,
                Desk.SUB, 1, 0, 1,
                Desk.ADD, 2, 2, 2, Desk.ADD, 2, 2, 2,
                Desk.SHIFT, 2, 2, 2,
                Desk.XOR, 1, 1, 2, Desk.XOR, 2, 1, 2, Desk.XOR, 1, 1, 2,
                Desk.ADDN, 3, 1, 0, Desk.ADDN, 1, 2, 0, Desk.ADDN, 2, 3, 0);
        sameDue("minus", x, 0, 2, 2, 1, 15, true);
        sameDue("times four", x, 3, 2, 5, 1, 15, true);
        sameDue("half of it", x, 3, 1, 5, 1, 4, false);
        sameDue("half of it, elsewhere", x, 3, 1, 5, 1, 11, true);
        sameDue("exchanged", x, 6, 3, 9, 3, 6, true);
        sameDue("exchanged by register 3", x, 6, 3, 9, 3, 14, false);
        sameDue("exchanged by register 3 alone", x, 6, 3, 9, 3, 8, false);
        sameDue("none compared", x, 0, 1, 9, 3, 0, true);
        sameDue("register 0 alone", x, 0, 1, 9, 3, 1, true);
        for (int place = 0; place < 10; place++) {
            sameDue("itself", x, place, 3, place, 3, 15, true);
        }
        RowImprover zero = Desk.typed(Desk.ADDN, 0, 1, 5, Desk.SHIFT, 1, 1, 4, Desk.AND, 1, 1, 0);
        sameDue("written to register 0", zero, 0, 1, 0, 0, 15, true);
        sameDue("shifted out", zero, 1, 1, 2, 1, 15, true);
    }

    /** Rows that differ in few states, so that none may be left out. */
    private static void rareDifferences() {
        RowImprover one = Desk.typed(
                Desk.OR, 1, 1, 2, Desk.OR, 1, 1, 3, Desk.LESS, 1, 0, 1, Desk.ADDN, 1, 0, 1);
        for (int again = 0; again < 3; again++) {
            sameDue("but where all are 0", one, 0, 3, 3, 1, 2, false);
        }
        for (int v = 0; v < 16; v++) {
            RowImprover x = Desk.typed(
                    Desk.XORN, 1, 1, v, Desk.OR, 1, 1, 2, Desk.LESS, 1, 0, 1,
                    Desk.ADDN, 1, 0, 1,
                    Desk.XORN, 2, 1, v, Desk.LESS, 1, 0, 2);
            sameDue("but where 1 is " + v + " and 2 is 0", x, 0, 3, 3, 1, 2, false);
            sameDue("but where 1 is " + v, x, 4, 2, 3, 1, 2, false);
        }
        RowImprover x = Desk.typed(
                Desk.AND, 1, 1, 2, Desk.AND, 1, 1, 3,
                Desk.LESS, 2, 1, 0, Desk.AND, 1, 1, 2,
                Desk.AND, 1, 3, 1, Desk.AND, 1, 2, 1,
                Desk.ANDN, 1, 1, 0);
        sameDue("0 is more than none", x, 2, 2, 6, 1, 2, true);
        sameDue("AND of three", x, 0, 2, 4, 2, 15, true);
        sameDue("AND of three is not 0", x, 0, 2, 6, 1, 2, false);
    }
}
