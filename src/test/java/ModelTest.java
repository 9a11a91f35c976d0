import java.util.function.LongSupplier;

/** Long runs of calls, right and wrong, whose every answer must be the model's. */
final class ModelTest {
    private static final int OBJECTS = 300;
    /** Of an object's 512 calls the last ones are kept for reading a program behind improve. */
    private static final int CALLS = 512 - 101;

    private static final Check check = new Check();

    /** A fixed row of numbers that look like chance, so that every run of the test is the same. */
    private long seed;
    private final RowImprover x = new RowImprover();
    private final Model model = new Model();
    private final int number;
    private int made;

    private ModelTest(int number) {
        this.number = number;
        this.seed = 977L * number + 12345;
    }

    public static void main(String[] args) {
        for (int number = 0; number < OBJECTS; number++) {
            ModelTest test = new ModelTest(number);
            while (test.made < CALLS) {
                test.call();
            }
            test.callUpTo512();
        }
        check.end();
    }

    private int below(int bound) {
        seed = seed * 6364136223846793005L + 1442695040888963407L;
        return (int) ((seed >>> 33) % bound);
    }

    private int between(int least, int most) {
        return least + below(most - least + 1);
    }

    private int mostly(int least, int most) {
        if (below(40) > 0) {
            return between(least, most);
        }
        int[] odd = {Integer.MIN_VALUE, -1, least - 1, most + 1, most + 2, Integer.MAX_VALUE};
        return odd[below(odd.length)];
    }

    private static String outcome(LongSupplier call) {
        try {
            return Long.toString(call.getAsLong());
        } catch (RuntimeException e) {
            return e.getClass().getSimpleName();
        }
    }

    private void compare(String text, LongSupplier got, LongSupplier want) {
        made++;
        String answer = outcome(got);
        String due = outcome(want);
        check.due("object " + number + ", call " + made + ": " + text + " answered " + answer
                + " where the model says " + due, answer.equals(due), true);
    }

    private int[] someInstruction() {
        int kind = below(20);
        int operation = kind < 13 ? below(10) : kind < 16 ? 10 + below(2) : 12 + below(4);
        int most = operation < 6 ? 3 : operation < 10 ? 15 : operation < 12 ? 7 : 24;
        int t = mostly(0, operation >= 12 && below(4) > 0 ? Math.min(24, model.size() + 3) : most);
        if (operation >= 6 && operation <= 9 && below(2) == 0) {
            t = new int[] {0, 1, 2, 8, 14, 15}[below(6)];
        }
        boolean noRegisters = operation >= 14 && below(40) > 0;
        int d = noRegisters ? 0 : mostly(0, 3);
        int s = noRegisters ? 0 : below(3) == 0 ? d : mostly(0, 3);
        return new int[] {below(60) == 0 ? mostly(0, 15) : operation, d, s,
                operation == 15 && below(40) > 0 ? 0 : t};
    }

    /** An object is used for at most 512 calls: the very last one is still answered as due. */
    private void callUpTo512() {
        while (made < 511) {
            int what = made % 14;
            compare("result(" + what + ")", () -> x.result(what), () -> model.result(what));
        }
        compare("improve()", () -> x.improve(), () -> model.improve());
    }

    private void call() {
        int kind = below(100);
        if (kind < 45) {
            type();
        } else if (kind < 70) {
            runOrStart();
        } else if (kind < 97) {
            ask();
        } else {
            improveOrClear();
        }
    }

    private void type() {
        int[] i = someInstruction();
        String fields = i[0] + ", " + i[1] + ", " + i[2] + ", " + i[3] + ")";
        if (below(3) > 0) {
            compare("add(" + fields, () -> x.add(i[0], i[1], i[2], i[3]),
                    () -> model.add(i[0], i[1], i[2], i[3]));
        } else {
            int place = mostly(0, Math.max(0, model.size() - 1));
            compare("replace(" + place + ", " + fields, () -> {
                x.replace(place, i[0], i[1], i[2], i[3]);
                return 0;
            }, () -> {
                model.replace(place, i[0], i[1], i[2], i[3]);
                return 0;
            });
        }
    }

    private void runOrStart() {
        int which = below(4);
        int a = which == 0 ? mostly(1, 11) : which == 1 ? mostly(0, below(2) == 0 ? 12 : 500)
                : mostly(0, 13);
        int v = mostly(0, 15);
        if (which == 0) {
            compare("start(" + a + ", " + v + ")", () -> {
                x.start(a, v);
                return 0;
            }, () -> {
                model.start(a, v);
                return 0;
            });
        } else if (which == 1) {
            compare("run(" + a + ")", () -> x.run(a), () -> model.run(a));
        } else {
            compare("result(" + a + ")", () -> x.result(a), () -> model.result(a));
        }
    }

    private void ask() {
        int place = mostly(0, model.size());
        int what = mostly(0, 3);
        switch (below(6)) {
            case 0:
                compare("live(" + place + ")", () -> x.live(place), () -> model.live(place));
                break;
            case 1:
                compare("block(" + place + ")",
                        () -> x.block(place), () -> model.block(place));
                break;
            case 2:
                compare("instruction(" + place + ", " + what + ")",
                        () -> x.instruction(place, what), () -> model.instruction(place, what));
                break;
            case 3:
                compare("count(" + what + ")", () -> x.count(what), () -> model.count(what));
                break;
            case 4:
                compare("size()", () -> x.size(), () -> model.size());
                break;
            default:
                askSame(place);
        }
    }

    private void askSame(int p) {
        int n = mostly(0, 3);
        int q = below(4) == 0 ? p : mostly(0, model.size());
        int m = mostly(0, 3);
        int registers = below(2) == 0 ? 1 << below(4) : mostly(0, 15);
        compare("same(" + p + ", " + n + ", " + q + ", " + m + ", " + registers + ")",
                () -> x.same(p, n, q, m, registers) ? 1 : 0,
                () -> model.same(p, n, q, m, registers) ? 1 : 0);
    }

    private void improveOrClear() {
        if (below(4) == 0) {
            compare("clear()", () -> x.clear(), () -> model.clear());
            return;
        }
        compare("improve()", () -> x.improve(), () -> model.improve());
        for (int what = 0; what < 3; what++) {
            int of = what;
            compare("count(" + what + ")", () -> x.count(of), () -> model.count(of));
        }
        for (int i = 0; i < 4 * model.size(); i++) {
            int place = i / 4;
            int what = i % 4;
            compare("instruction(" + place + ", " + what + ") behind improve()",
                    () -> x.instruction(place, what), () -> model.instruction(place, what));
        }
    }
}
