/** Promise 12 at the edges that the document names, a test for each sentence. */
final class SameEdgesTest {
    private static final Check check = new Check();

    public static void main(String[] args) {
        rowsOf0To3();
        registersByBits();
        inAllStates();
        lastStateTried();
        doneOneAfterTheOther();
        arithmeticWraps();
        register0IsAlways0();
        startValuesDoNotMatter();
        emptyRows();
        leastAndGreatestPlaces();

        nOrMNotAsSaid();
        registersNotAsSaid();
        notAllThere();
        notPlain();
        argumentBeforeIndex();
        indexBeforeUnsupported();
        check.end();
    }

    private static String call(int p, int n, int q, int m, int registers) {
        return "same(" + p + ", " + n + ", " + q + ", " + m + ", " + registers + ")";
    }

    private static void sameDue(RowImprover x, int p, int n, int q, int m, int registers,
            boolean due) {
        check.due(call(p, n, q, m, registers), x.same(p, n, q, m, registers), due);
        check.due(call(q, m, p, n, registers), x.same(q, m, p, n, registers), due);
    }

    private static void refused(Desk.Maker maker, Class<? extends RuntimeException> want,
            int p, int n, int q, int m, int registers) {
        Desk.refused(check, call(p, n, q, m, registers), want, maker,
                x -> x.same(p, n, q, m, registers) ? 1 : 0);
    }

    private static RowImprover four() {
        return Desk.experienced(Desk.ADD, 1, 1, 0, Desk.ADD, 1, 1, 1, Desk.SUB, 3, 2, 1,
                Desk.ADD, 2, 2, 2);
    }

    private static RowImprover full() {
        RowImprover x = Desk.experienced();
        for (int place = 0; place < 24; place++) {
            x.add(Desk.ADDN, 1 + place % 3, 1, place % 16);
        }
        return x;
    }

    private static void rowsOf0To3() {
        check.sentence("Promise 12: Whether n instructions from place p on and m from place q on"
                + " .. leave the same values (n, m 0 .. 3)");
        RowImprover x = Desk.repeated(24, Desk.ADDN, 2, 2, 3);
        for (int n = 0; n <= 3; n++) {
            for (int m = 0; m <= 3; m++) {
                sameDue(x, 1, n, 7, m, 15, n == m);
                sameDue(x, 24 - n, n, 0, m, 4, n == m);
                sameDue(x, 5, n, 5, m, 11, true);
            }
        }
    }

    private static void registersByBits() {
        check.sentence("Promise 12: in the registers given by bits (2^r)");
        for (int r = 1; r <= 3; r++) {
            RowImprover x = Desk.typed(Desk.ADDN, r, r, 1);
            for (int registers = 0; registers <= 15; registers++) {
                sameDue(x, 0, 1, 0, 0, registers, (registers >> r & 1) == 0);
            }
        }
        RowImprover all = Desk.typed(Desk.ADDN, 1, 1, 1, Desk.ADDN, 2, 2, 1, Desk.ADDN, 3, 3, 1);
        for (int registers = 0; registers <= 15; registers++) {
            sameDue(all, 0, 3, 0, 0, registers, registers <= 1);
            sameDue(all, 0, 3, 0, 2, registers, registers <= 7);
        }
    }

    /** Register 1 becomes 1 in all states but the one where all registers are 0. */
    private static void typeRareRow(RowImprover x) {
        Desk.type(x, Desk.OR, 1, 1, 2, Desk.OR, 1, 1, 3, Desk.LESS, 1, 0, 1);
    }

    private static void inAllStates() {
        check.sentence("Promise 12: in all states");
        RowImprover rare = Desk.typed(Desk.ADDN, 1, 0, 1);
        typeRareRow(rare);
        sameDue(rare, 0, 1, 1, 3, 2, false);
        sameDue(rare, 0, 1, 1, 3, 13, true);
        for (int r = 1; r <= 3; r++) {
            int other = r % 3 + 1;
            for (int v = 0; v < 16; v++) {
                RowImprover x = Desk.typed(
                        Desk.XORN, r, r, v, Desk.OR, r, r, other, Desk.LESS, r, 0, r,
                        Desk.ADDN, r, 0, 1);
                // They differ where register r is v and the other is 0.
                sameDue(x, 0, 3, 3, 1, 15, false);
                sameDue(x, 0, 3, 3, 1, 1 << r, false);
                sameDue(x, 0, 3, 3, 1, 15 - (1 << r), true);
            }
        }
        // What is one more is greater, but for the greatest value.
        RowImprover greatest = Desk.typed(
                Desk.AND, 1, 1, 2, Desk.ADDN, 2, 1, 1, Desk.LESS, 2, 1, 2,
                Desk.ADDN, 2, 0, 1);
        sameDue(greatest, 0, 3, 3, 1, 4, false);
        sameDue(greatest, 1, 2, 3, 1, 4, false);
    }

    /** Whatever rows were compared before, no state is left out for the next ones. */
    private static void lastStateTried() {
        check.sentence("Promise 12: in all states (whatever was asked before)");
        for (int r = 1; r <= 3; r++) {
            for (int v = 0; v < 16; v++) {
                RowImprover x = Desk.typed(Desk.XORN, r, r, v, Desk.LESS, r, 0, r,
                        Desk.ADDN, r, 0, 1, Desk.ADDN, 1, 0, 1);
                typeRareRow(x);
                sameDue(x, 0, 2, 2, 1, 1 << r, false);
                check.due(call(3, 1, 4, 3, 2), x.same(3, 1, 4, 3, 2), false);
                check.due(call(4, 3, 3, 1, 2), x.same(4, 3, 3, 1, 2), false);
                check.due(call(4, 3, 4, 3, 15), x.same(4, 3, 4, 3, 15), true);
            }
        }
    }

    private static void doneOneAfterTheOther() {
        check.sentence("Promise 12: done one after the other");
        RowImprover x = Desk.typed(
                Desk.ADDN, 1, 2, 1, Desk.ADDN, 2, 1, 1,
                Desk.ADDN, 2, 1, 1, Desk.ADDN, 1, 2, 1,
                Desk.ADDN, 2, 2, 2);
        sameDue(x, 0, 2, 2, 2, 6, false);
        sameDue(x, 0, 2, 4, 1, 4, true);
        sameDue(x, 0, 2, 4, 1, 2, false);
        // They need not be in one block, and neither may jump.
        RowImprover parted = Desk.typed(Desk.ADDN, 1, 1, 1, Desk.ADDN, 1, 1, 1,
                Desk.ADDN, 1, 1, 2, Desk.JUMP, 0, 0, 1);
        sameDue(parted, 0, 2, 2, 1, 15, true);
    }

    private static void arithmeticWraps() {
        check.sentence("Promise 12: all arithmetic is modulo 16");
        RowImprover x = Desk.typed(
                Desk.ADDN, 1, 1, 15, Desk.ADDN, 1, 1, 1,
                Desk.SUB, 2, 0, 2, Desk.SUB, 2, 0, 2,
                Desk.SHIFT, 3, 3, 3, Desk.SHIFT, 3, 3, 1, Desk.AND, 3, 3, 0);
        sameDue(x, 0, 2, 0, 0, 15, true);
        sameDue(x, 2, 2, 0, 0, 15, true);
        sameDue(x, 4, 2, 6, 1, 15, true);
        sameDue(x, 4, 1, 6, 1, 15, false);
        // SHIFT by 4 and by 15 leaves nothing; what wraps is not less.
        RowImprover y = Desk.typed(Desk.SHIFT, 1, 1, 4, Desk.SHIFT, 1, 1, 15, Desk.ADD, 1, 0, 0,
                Desk.ADDN, 2, 1, 1, Desk.LESS, 2, 1, 2, Desk.ADDN, 2, 0, 1);
        sameDue(y, 0, 1, 1, 1, 15, true);
        sameDue(y, 0, 1, 2, 1, 15, true);
        sameDue(y, 3, 2, 5, 1, 4, false);
    }

    private static void register0IsAlways0() {
        check.sentence("Promise 12: register 0 is always 0 (what is written there is lost)");
        for (int operation = Desk.ADD; operation <= Desk.SHIFT; operation++) {
            RowImprover x = Desk.typed(operation, 0, 1, 1, Desk.ADD, 3, 0, 0, Desk.XOR, 3, 3, 3);
            sameDue(x, 0, 1, 0, 0, 15, true);
            sameDue(x, 0, 1, 0, 0, 1, true);
            sameDue(x, 0, 2, 2, 1, 15, true);
        }
    }

    private static void startValuesDoNotMatter() {
        check.sentence("Promise 12: in all states (not in those of start and run alone)");
        RowImprover x = Desk.typed(Desk.ADDN, 1, 2, 0, Desk.ADDN, 1, 0, 5);
        x.start(2, 5);
        x.run(1);
        sameDue(x, 0, 1, 1, 1, 15, false);
        check.due("result(1) behind it", x.result(1), 5);
    }

    private static void emptyRows() {
        check.sentence("Promise 12: n instructions from place p on (none)");
        sameDue(new RowImprover(), 0, 0, 0, 0, 15, true);
        RowImprover x = Desk.typed(Desk.ADD, 1, 1, 0, Desk.ADD, 1, 1, 1, Desk.HALT, 0, 0, 0);
        for (int place = 0; place <= 3; place++) {
            sameDue(x, 0, 1, place, 0, 15, true);
            sameDue(x, 1, 1, place, 0, 2, false);
            sameDue(x, 1, 1, place, 0, 13, true);
            sameDue(x, place, 0, 0, 0, 15, true);
        }
        // Where none are asked for none is missing, wherever that is.
        for (int place : Desk.outside(0, 3)) {
            sameDue(x, place, 0, 0, 0, 15, true);
            sameDue(x, place, 0, 1, 1, 15, false);
        }
    }

    private static void leastAndGreatestPlaces() {
        check.sentence("Promise 12: they are all there (from the first place to the last)");
        for (int n = 1; n <= 3; n++) {
            sameDue(four(), 0, n, 4 - n, n, 0, true);
            sameDue(four(), 4 - n, n, 4 - n, n, 15, true);
            sameDue(full(), 24 - n, n, 24 - n, n, 15, true);
            sameDue(full(), 0, n, 24 - n, n, 1, true);
        }
        sameDue(full(), 21, 3, 0, 3, 14, false);
        sameDue(Desk.typed(Desk.ADD, 1, 1, 0), 0, 1, 0, 0, 15, true);
    }

    private static void nOrMNotAsSaid() {
        check.sentence("Promise 12: IllegalArgumentException when n or m is not 0 .. 3");
        for (int wrong : Desk.outside(0, 3)) {
            refused(SameEdgesTest::four, Desk.ARGUMENT, 0, wrong, 0, 1, 15);
            refused(SameEdgesTest::four, Desk.ARGUMENT, 0, 1, 0, wrong, 15);
            refused(SameEdgesTest::four, Desk.ARGUMENT, 0, 0, 0, wrong, 0);
            refused(SameEdgesTest::four, Desk.ARGUMENT, 0, wrong, 0, wrong, 0);
            refused(SameEdgesTest::full, Desk.ARGUMENT, 0, wrong, 0, 3, 15);
            refused(SameEdgesTest::full, Desk.ARGUMENT, 0, 3, 0, wrong, 15);
        }
    }

    private static void registersNotAsSaid() {
        check.sentence("Promise 12: IllegalArgumentException when .. registers not 0 .. 15");
        for (int wrong : Desk.outside(0, 15)) {
            refused(SameEdgesTest::four, Desk.ARGUMENT, 0, 1, 0, 1, wrong);
            refused(RowImprover::new, Desk.ARGUMENT, 0, 0, 0, 0, wrong);
        }
    }

    private static void notAllThere() {
        check.sentence("Promise 12: else IndexOutOfBoundsException when they are not all there");
        for (int n = 1; n <= 3; n++) {
            for (int place : Desk.outside(0, 4 - n)) {
                refused(SameEdgesTest::four, Desk.INDEX, place, n, 0, 1, 15);
                refused(SameEdgesTest::four, Desk.INDEX, 0, 1, place, n, 15);
                refused(SameEdgesTest::four, Desk.INDEX, 0, 0, place, n, 0);
                refused(SameEdgesTest::four, Desk.INDEX, place, n, place, n, 15);
            }
            for (int place : Desk.outside(0, 24 - n)) {
                refused(SameEdgesTest::full, Desk.INDEX, place, n, 0, 3, 15);
                refused(SameEdgesTest::full, Desk.INDEX, 0, 3, place, n, 15);
            }
            for (int place : new int[] {-3, -2, -1, 0, 1, Desk.MOST - 2, Desk.MOST - 1}) {
                refused(Desk::experienced, Desk.INDEX, place, n, 0, 0, 15);
                refused(Desk::experienced, Desk.INDEX, 0, 0, place, n, 15);
            }
        }
    }

    private static void notPlain() {
        check.sentence("Promise 12: else UnsupportedOperationException when one of them is not"
                + " plain");
        for (int operation = Desk.LOAD; operation <= Desk.HALT; operation++) {
            int other = operation;
            for (int n = 1; n <= 3; n++) {
                for (int at = 0; at < n; at++) {
                    int p = 3 - at;
                    int length = n;
                    // Place 3 of 7 is not plain; it is the first, second or third of the row.
                    Desk.Maker maker = () -> withOther(other);
                    refused(maker, Desk.UNSUPPORTED, p, length, 0, 1, 15);
                    refused(maker, Desk.UNSUPPORTED, 0, 1, p, length, 15);
                    refused(maker, Desk.UNSUPPORTED, p, length, p, length, 0);
                    refused(maker, Desk.UNSUPPORTED, p, length, 0, 0, 0);
                }
            }
            sameDue(withOther(operation), 0, 3, 4, 3, 15, true);
            sameDue(withOther(operation), 3, 0, 3, 0, 15, true);
        }
        for (int operation = Desk.ADD; operation <= Desk.SHIFT; operation++) {
            sameDue(withOther(operation), 1, 3, 1, 3, 15, true);
            sameDue(withOther(operation), 3, 1, 0, 0, 15, true);
        }
    }

    private static RowImprover withOther(int operation) {
        return Desk.experienced(Desk.ADD, 1, 1, 1, Desk.SUB, 2, 2, 1, Desk.XOR, 3, 1, 1,
                operation, 0, 0, 0,
                Desk.ADD, 1, 1, 1, Desk.SUB, 2, 2, 1, Desk.XOR, 3, 2, 2);
    }

    private static void argumentBeforeIndex() {
        check.sentence("Promise 12: IllegalArgumentException ..; else IndexOutOfBoundsException;"
                + " else UnsupportedOperationException");
        Desk.Maker maker = () -> withOther(Desk.HALT);
        for (int p : new int[] {-1, 3, 7, 24}) {
            refused(maker, Desk.ARGUMENT, p, -1, 0, 1, 15);
            refused(maker, Desk.ARGUMENT, p, 4, 0, 1, 15);
            refused(maker, Desk.ARGUMENT, p, 1, 0, -1, 15);
            refused(maker, Desk.ARGUMENT, p, 1, 0, 4, 15);
            refused(maker, Desk.ARGUMENT, 0, 4, p, 1, 15);
            refused(maker, Desk.ARGUMENT, p, 1, 0, 1, -1);
            refused(maker, Desk.ARGUMENT, p, 1, 0, 1, 16);
            refused(maker, Desk.ARGUMENT, 0, 1, p, 1, 16);
        }
        refused(RowImprover::new, Desk.ARGUMENT, 0, 4, 0, 0, 0);
        refused(RowImprover::new, Desk.ARGUMENT, 0, 1, 0, 1, 16);
    }

    private static void indexBeforeUnsupported() {
        check.sentence("Promise 12: else IndexOutOfBoundsException; else"
                + " UnsupportedOperationException");
        for (int operation = Desk.LOAD; operation <= Desk.HALT; operation++) {
            int other = operation;
            Desk.Maker maker = () -> withOther(other);
            refused(maker, Desk.INDEX, 3, 1, 7, 1, 15);
            refused(maker, Desk.INDEX, 7, 1, 3, 1, 15);
            refused(maker, Desk.INDEX, 3, 3, -1, 1, 15);
            refused(maker, Desk.INDEX, -1, 1, 3, 3, 15);
            Desk.Maker last = () -> Desk.experienced(Desk.ADD, 1, 1, 1, other, 0, 0, 0);
            refused(last, Desk.INDEX, 1, 2, 0, 1, 15);
            refused(last, Desk.INDEX, 0, 3, 0, 1, 15);
            refused(last, Desk.INDEX, 0, 1, 1, 2, 15);
            refused(last, Desk.UNSUPPORTED, 0, 2, 0, 1, 15);
        }
    }
}
