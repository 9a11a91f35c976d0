/** Promises 7 to 9: start, run, result. */
final class RunTest {
    private static final Check check = new Check();

    public static void main(String[] args) {
        plainOperations();
        loadAndStore();
        branches();
        check.end();
    }

    private static int plain(int operation, int a, int b) {
        switch (operation) {
            case Desk.ADD: case Desk.ADDN: return (a + b) % 16;
            case Desk.SUB: return (a + 16 - b) % 16;
            case Desk.AND: case Desk.ANDN: return a & b;
            case Desk.OR: return a | b;
            case Desk.XOR: case Desk.XORN: return a ^ b;
            case Desk.LESS: return a < b ? 1 : 0;
            default: return (int) ((long) a * (1L << b) % 16);
        }
    }

    private static void plainOperations() {
        for (int operation = Desk.ADD; operation <= Desk.SHIFT; operation++) {
            for (int b = 0; b < 16; b++) {
                RowImprover x = Desk.typed(operation, 1, 2, operation <= Desk.LESS ? 3 : b);
                for (int a = 0; a < 16; a++) {
                    x.start(1, 13);
                    x.start(2, a);
                    x.start(3, b);
                    String call = "operation " + operation + " of " + a + " and " + b;
                    check.due(call + " is one step", x.run(500), 1);
                    check.due(call, x.result(1), plain(operation, a, b));
                    check.due(call + " leaves S", x.result(2), a);
                    check.due(call + " leaves T", x.result(3), b);
                }
            }
        }
    }

    private static void loadAndStore() {
        for (int s = 0; s < 16; s++) {
            for (int t = 0; t < 8; t++) {
                RowImprover x = Desk.typed(Desk.LOAD, 1, 2, t, Desk.STORE, 3, 2, t);
                for (int cell = 0; cell < 8; cell++) {
                    x.start(4 + cell, 15 - cell);
                }
                x.start(2, s);
                x.start(3, 2);
                x.run(500);
                int used = (s + t) % 8;
                check.due("LOAD of " + s + " + " + t, x.result(1), 15 - used);
                for (int cell = 0; cell < 8; cell++) {
                    int due = cell == used ? 2 : 15 - cell;
                    check.due("cell " + cell + " behind STORE", x.result(4 + cell), due);
                }
            }
        }
        RowImprover own = Desk.typed(Desk.LOAD, 2, 2, 1, Desk.STORE, 2, 2, 0);
        own.start(2, 3);
        own.start(8, 6);
        own.run(2);
        check.due("LOAD to its own S", own.result(2), 6);
        check.due("STORE of its own S", own.result(10), 6);
    }

    private static void branches() {
        for (int a = 0; a < 16; a += 5) {
            for (int b = 0; b < 16; b += 5) {
                branchDue(Desk.SAME, a, b, a == b);
                branchDue(Desk.OTHER, a, b, a != b);
                branchDue(Desk.JUMP, a, b, true);
            }
        }
    }

    private static void branchDue(int operation, int a, int b, boolean goes) {
        boolean jump = operation == Desk.JUMP;
        RowImprover x = Desk.typed(operation, jump ? 0 : 1, jump ? 0 : 2, 3,
                Desk.ADDN, 3, 3, 1, Desk.ADDN, 3, 3, 2, Desk.ADDN, 3, 3, 4);
        x.start(1, a);
        x.start(2, b);
        String call = "operation " + operation + " of " + a + " and " + b;
        check.due(call, x.run(500), goes ? 2 : 4);
        check.due(call + " result", x.result(3), goes ? 4 : 7);
        check.due(call + " end", x.result(12), 1);
        check.due(call + " place", x.result(13), 4);
    }
}
