/** Helpers that type whole programs and read back all that an object shows. */
final class Desk {
    static final Class<IllegalArgumentException> ARGUMENT = IllegalArgumentException.class;
    static final Class<IllegalStateException> STATE = IllegalStateException.class;
    static final Class<IndexOutOfBoundsException> INDEX = IndexOutOfBoundsException.class;
    static final Class<UnsupportedOperationException> UNSUPPORTED =
            UnsupportedOperationException.class;

    static final int ADD = 0, SUB = 1, AND = 2, OR = 3, XOR = 4, LESS = 5, ADDN = 6, ANDN = 7,
            XORN = 8, SHIFT = 9, LOAD = 10, STORE = 11, SAME = 12, OTHER = 13, JUMP = 14, HALT = 15;

    /** A new object with a program; four numbers an instruction. */
    static RowImprover typed(int... numbers) {
        RowImprover x = new RowImprover();
        type(x, numbers);
        return x;
    }

    static void type(RowImprover x, int... numbers) {
        for (int i = 0; i < numbers.length; i += 4) {
            x.add(numbers[i], numbers[i + 1], numbers[i + 2], numbers[i + 3]);
        }
    }

    static String program(RowImprover x) {
        StringBuilder text = new StringBuilder();
        for (int place = 0; place < x.size(); place++) {
            for (int what = 0; what < 4; what++) {
                text.append(x.instruction(place, what)).append(what < 3 ? ' ' : ';');
            }
        }
        return text.toString();
    }

    /** All that can be seen without changing anything: the program, the latest run, the counts. */
    static String seen(RowImprover x) {
        StringBuilder text = new StringBuilder(program(x));
        for (int what = 0; what < 14; what++) {
            text.append(' ').append(x.result(what));
        }
        for (int what = 0; what < 3; what++) {
            text.append(' ').append(x.count(what));
        }
        return text.toString();
    }

    /** What is due of a program, written as four numbers an instruction. */
    static void programDue(Check check, String when, RowImprover x, int... numbers) {
        check.due(when + ": size()", x.size(), numbers.length / 4);
        for (int i = 0; i < numbers.length && i < 4 * x.size(); i++) {
            check.due(when + ": instruction(" + i / 4 + ", " + i % 4 + ")",
                    x.instruction(i / 4, i % 4), numbers[i]);
        }
    }

    /** A call that throws as it is due to, and leaves all that can be seen as it was. */
    static void refused(Check check, RowImprover x, String call,
            Class<? extends RuntimeException> want, Check.Call made) {
        String before = seen(x);
        check.thrown(call, want, made);
        check.due(call + " changes nothing", before.equals(seen(x)), true);
    }
}
