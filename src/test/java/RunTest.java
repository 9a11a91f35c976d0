/** Promises 7 to 9: start, run, result. */
final class RunTest {
    private static final int LEAST = Integer.MIN_VALUE;
    private static final int MOST = Integer.MAX_VALUE;

    private static final Check check = new Check();

    public static void main(String[] args) {
        plainOperations();
        registerZero();
        loadAndStore();
        branches();
        ends();
        limits();
        startValues();
        runsBeginAnew();
        wrongInputs();
        check.end();
    }

    private static int plain(int operation, int a, int b) {
        switch (operation) {
            case Desk.ADD: case Desk.ADDN: return (a + b) % 16;
            case Desk.SUB: return (a + 16 - b) % 16;
            case Desk.AND: case Desk.ANDN: return a & b;
            case Desk.OR: return a | b;
            case Desk.XOR: case Desk.XORN: return a ^ b;
            case Desk.LESS: return a < b ? 1 : 0;
            default: return (int) ((long) a * (1L << b) % 16);
        }
    }

    private static void plainOperations() {
        for (int operation = Desk.ADD; operation <= Desk.SHIFT; operation++) {
            for (int b = 0; b < 16; b++) {
                RowImprover x = Desk.typed(operation, 1, 2, operation <= Desk.LESS ? 3 : b);
                for (int a = 0; a < 16; a++) {
                    x.start(1, 13);
                    x.start(2, a);
                    x.start(3, b);
                    String call = "operation " + operation + " of " + a + " and " + b;
                    check.due(call + " is one step", x.run(500), 1);
                    check.due(call, x.result(1), plain(operation, a, b));
                    check.due(call + " leaves S", x.result(2), a);
                    check.due(call + " leaves T", x.result(3), b);
                }
            }
        }
    }

    private static void registerZero() {
        RowImprover x = Desk.typed(Desk.ADDN, 0, 0, 9, Desk.LOAD, 0, 0, 1, Desk.ADD, 1, 0, 0);
        x.start(5, 6);
        x.start(1, 4);
        x.run(3);
        check.due("register 0 stays 0", x.result(0), 0);
        check.due("register 0 is read as 0", x.result(1), 0);
    }

    private static void loadAndStore() {
        for (int s = 0; s < 16; s++) {
            for (int t = 0; t < 8; t++) {
                RowImprover x = Desk.typed(Desk.LOAD, 1, 2, t, Desk.STORE, 3, 2, t);
                for (int cell = 0; cell < 8; cell++) {
                    x.start(4 + cell, 15 - cell);
                }
                x.start(2, s);
                x.start(3, 2);
                x.run(500);
                int used = (s + t) % 8;
                check.due("LOAD of " + s + " + " + t, x.result(1), 15 - used);
                for (int cell = 0; cell < 8; cell++) {
                    int due = cell == used ? 2 : 15 - cell;
                    check.due("cell " + cell + " behind STORE", x.result(4 + cell), due);
                }
            }
        }
        RowImprover own = Desk.typed(Desk.LOAD, 2, 2, 1, Desk.STORE, 2, 2, 0);
        own.start(2, 3);
        own.start(8, 6);
        own.run(2);
        check.due("LOAD to its own S", own.result(2), 6);
        check.due("STORE of its own S", own.result(10), 6);
    }

    private static void branches() {
        for (int a = 0; a < 16; a += 5) {
            for (int b = 0; b < 16; b += 5) {
                branchDue(Desk.SAME, a, b, a == b);
                branchDue(Desk.OTHER, a, b, a != b);
                branchDue(Desk.JUMP, a, b, true);
            }
        }
    }

    private static void branchDue(int operation, int a, int b, boolean goes) {
        boolean jump = operation == Desk.JUMP;
        RowImprover x = Desk.typed(operation, jump ? 0 : 1, jump ? 0 : 2, 3,
                Desk.ADDN, 3, 3, 1, Desk.ADDN, 3, 3, 2, Desk.ADDN, 3, 3, 4);
        x.start(1, a);
        x.start(2, b);
        String call = "operation " + operation + " of " + a + " and " + b;
        check.due(call, x.run(500), goes ? 2 : 4);
        check.due(call + " result", x.result(3), goes ? 4 : 7);
        check.due(call + " end", x.result(12), 1);
        check.due(call + " place", x.result(13), 4);
    }

    private static void outcome(RowImprover x, String when, int end, int place) {
        check.due(when + ": result(12)", x.result(12), end);
        check.due(when + ": result(13)", x.result(13), place);
    }

    private static void ends() {
        RowImprover empty = new RowImprover();
        check.due("run(0) of none", empty.run(0), 0);
        outcome(empty, "run(0) of none", 1, 0);
        check.due("run(9) of none", empty.run(9), 0);
        outcome(empty, "run(9) of none", 1, 0);

        RowImprover halt = Desk.typed(Desk.HALT, 0, 0, 0, Desk.ADDN, 1, 1, 1);
        check.due("run(0) before HALT", halt.run(0), 0);
        outcome(halt, "run(0) before HALT", 0, 0);
        check.due("run(1) of HALT", halt.run(1), 1);
        outcome(halt, "run(1) of HALT", 1, 1);
        check.due("run(2) of HALT", halt.run(2), 1);
        outcome(halt, "run(2) of HALT", 1, 1);
        check.due("nothing is done behind HALT", halt.result(1), 0);

        for (int target = 1; target <= 24; target++) {
            RowImprover out = Desk.typed(Desk.JUMP, 0, 0, target);
            check.due("JUMP out", out.run(5), 1);
            outcome(out, "JUMP out to " + target, 1, target);
        }
    }

    private static void limits() {
        RowImprover x = Desk.typed(Desk.ADDN, 1, 1, 1, Desk.ADDN, 2, 2, 1, Desk.HALT, 0, 0, 0);
        for (int limit = 0; limit <= 4; limit++) {
            int done = Math.min(limit, 3);
            check.due("run(" + limit + ")", x.run(limit), done);
            outcome(x, "run(" + limit + ")", done == 3 ? 1 : 0, done);
            check.due("register 2 behind run(" + limit + ")", x.result(2), limit >= 2 ? 1 : 0);
        }
        RowImprover falls = Desk.typed(Desk.ADD, 1, 1, 1);
        check.due("run(1) of one", falls.run(1), 1);
        outcome(falls, "run(1) of one", 1, 1);
        RowImprover round = Desk.typed(Desk.ADDN, 1, 1, 1, Desk.JUMP, 0, 0, 0);
        check.due("run(500) round", round.run(500), 500);
        check.due("250 modulo 16", round.result(1), 250 % 16);
        outcome(round, "run(500) round", 0, 0);
        check.due("run(499) round", round.run(499), 499);
        outcome(round, "run(499) round", 0, 1);
    }

    private static void startValues() {
        RowImprover x = new RowImprover();
        for (int number = 1; number <= 11; number++) {
            x.start(number, number + 4);
        }
        check.due("start is no run", x.result(5), 0);
        x.run(0);
        check.due("register 0", x.result(0), 0);
        for (int number = 1; number <= 11; number++) {
            check.due("start(" + number + ")", x.result(number), number + 4);
        }
        x.start(4, 0);
        x.start(3, 15);
        check.due("the latest run stands", x.result(4), 8);
        x.run(0);
        check.due("start(4, 0)", x.result(4), 0);
        check.due("start(3, 15)", x.result(3), 15);
        check.due("others stand", x.result(2), 6);
    }

    private static void runsBeginAnew() {
        RowImprover x = Desk.typed(Desk.ADDN, 1, 1, 3, Desk.STORE, 1, 0, 0);
        for (int again = 0; again < 3; again++) {
            x.run(2);
            check.due("register 1, run " + again, x.result(1), 3);
            check.due("cell 0, run " + again, x.result(4), 3);
        }
        x.run(1);
        check.due("cell 0 starts with 0 again", x.result(4), 0);
        x.replace(0, Desk.ADDN, 1, 1, 5);
        x.add(Desk.HALT, 0, 0, 0);
        x.improve();
        check.due("typing is no run", x.result(1), 3);
        outcome(x, "typing is no run", 0, 1);
    }

    private static void wrongInputs() {
        RowImprover x = Desk.typed(Desk.ADDN, 1, 1, 3, Desk.ADDN, 2, 1, 3);
        x.start(1, 2);
        x.run(1);
        for (int number : new int[] {LEAST, -1, 0, 12, 13, MOST}) {
            Desk.refused(check, x, "start(" + number + ", 1)", Desk.ARGUMENT,
                    () -> started(x, number, 1));
        }
        for (int v : new int[] {LEAST, -1, 16, MOST}) {
            for (int number = 1; number <= 11; number++) {
                int of = number;
                Desk.refused(check, x, "start(" + number + ", " + v + ")", Desk.ARGUMENT,
                        () -> started(x, of, v));
            }
        }
        for (int limit : new int[] {LEAST, -1, 501, MOST}) {
            Desk.refused(check, x, "run(" + limit + ")", Desk.ARGUMENT, () -> x.run(limit));
        }
        for (int what : new int[] {LEAST, -1, 14, 15, MOST}) {
            check.due("result(" + what + ")", x.result(what), RowImprover.NONE);
        }
        x.run(0);
        check.due("a refused start changes nothing", x.result(1), 2);
        for (int what = 2; what <= 11; what++) {
            check.due("a refused start changes nothing at " + what, x.result(what), 0);
        }
    }

    private static long started(RowImprover x, int number, int v) {
        x.start(number, v);
        return 0;
    }
}
