/** Helpers that type whole programs and read back all that an object shows. */
final class Desk {
    static final Class<IllegalArgumentException> ARGUMENT = IllegalArgumentException.class;
    static final Class<IllegalStateException> STATE = IllegalStateException.class;
    static final Class<IndexOutOfBoundsException> INDEX = IndexOutOfBoundsException.class;
    static final Class<UnsupportedOperationException> UNSUPPORTED =
            UnsupportedOperationException.class;

    static final int ADD = 0, SUB = 1, AND = 2, OR = 3, XOR = 4, LESS = 5, ADDN = 6, ANDN = 7,
            XORN = 8, SHIFT = 9, LOAD = 10, STORE = 11, SAME = 12, OTHER = 13, JUMP = 14, HALT = 15;

    static final int LEAST = Integer.MIN_VALUE;
    static final int MOST = Integer.MAX_VALUE;

    /** Makes the same object anew each time, so that two of them can be held side by side. */
    interface Maker {
        RowImprover make();
    }

    interface Use {
        long answer(RowImprover x);
    }

    /** A new object with a program; four numbers an instruction. */
    static RowImprover typed(int... numbers) {
        RowImprover x = new RowImprover();
        type(x, numbers);
        return x;
    }

    static void type(RowImprover x, int... numbers) {
        for (int i = 0; i < numbers.length; i += 4) {
            x.add(numbers[i], numbers[i + 1], numbers[i + 2], numbers[i + 3]);
        }
    }

    /**
     * An object with a past: start values, a run that has left something in every register and
     * cell, and counts above 0 stand in it, so that it would be seen if one of them were lost.
     */
    static RowImprover experienced(int... numbers) {
        RowImprover x = typed(ADD, 3, 3, 0, ADDN, 1, 2, 6, AND, 1, 1, 1, STORE, 1, 0, 5);
        for (int number = 1; number <= 11; number++) {
            x.start(number, number + 2);
        }
        x.improve();
        x.run(1);
        x.clear();
        type(x, numbers);
        return x;
    }

    /** A new object with the same instruction some times over. */
    static RowImprover repeated(int times, int operation, int d, int s, int t) {
        RowImprover x = new RowImprover();
        for (int i = 0; i < times; i++) {
            x.add(operation, d, s, t);
        }
        return x;
    }

    /** Values next to the allowed ones, and far ones that a shorter type would take for them. */
    static int[] outside(int least, int most) {
        return new int[] {LEAST, least - 65536, least - 256, least - 1,
            most + 1, most + 256, least + 65536, MOST};
    }

    /** What is due of a program, written as four numbers an instruction. */
    static void programDue(Check check, String when, RowImprover x, int... numbers) {
        check.due(when + ": size()", x.size(), numbers.length / 4);
        for (int i = 0; i < numbers.length && i < 4 * x.size(); i++) {
            check.due(when + ": instruction(" + i / 4 + ", " + i % 4 + ")",
                    x.instruction(i / 4, i % 4), numbers[i]);
        }
    }

    static void countsDue(Check check, String when, RowImprover x,
            int rows, int nothing, int looked) {
        check.due(when + ": count(0)", x.count(0), rows);
        check.due(when + ": count(1)", x.count(1), nothing);
        check.due(when + ": count(2)", x.count(2), looked);
    }

    static void liveDue(Check check, String when, RowImprover x, int... due) {
        for (int place = 0; place < due.length; place++) {
            check.due(when + ": live(" + place + ")", x.live(place), due[place]);
        }
    }

    /** An experienced object's start values stand in the results, from one of them on. */
    static void experienceDue(Check check, String when, RowImprover x, int from) {
        for (int what = from; what <= 11; what++) {
            check.due(when + ": result(" + what + ")", x.result(what), what + 2);
        }
    }

    /**
     * A call that throws as it is due to, and changes nothing: behind it the object tells the same
     * story as a twin that was never called so.
     */
    static void refused(Check check, String call, Class<? extends RuntimeException> want,
            Maker maker, Use use) {
        RowImprover x = maker.make();
        check.thrown(call, want, () -> use.answer(x));
        check.due(call + " changes nothing", story(x), story(maker.make()));
    }

    /** All that an object shows and does from now on; it is used up by that (some 300 calls). */
    private static String story(RowImprover x) {
        StringBuilder text = new StringBuilder();
        tellProgram(text, x);
        tellFlow(text, x);
        tellNumbers(text, x);
        for (int limit = 0; limit <= 500; limit += 500) {
            text.append(" run ").append(x.run(limit)).append(':');
            tellNumbers(text, x);
        }
        text.append(" improve ").append(x.improve()).append(':');
        tellProgram(text, x);
        tellNumbers(text, x);
        text.append(" clear ").append(x.clear()).append(" add ").append(x.add(HALT, 0, 0, 0));
        return text.toString();
    }

    private static void tellProgram(StringBuilder text, RowImprover x) {
        int size = x.size();
        text.append(size).append(" instructions:");
        for (int place = 0; place < size; place++) {
            for (int what = 0; what < 4; what++) {
                text.append(what == 0 ? "; " : " ").append(x.instruction(place, what));
            }
        }
    }

    private static void tellFlow(StringBuilder text, RowImprover x) {
        int size = x.size();
        text.append(" live");
        for (int place = 0; place <= size; place++) {
            text.append(' ').append(x.live(place));
        }
        text.append(" block");
        for (int place = 0; place < size; place++) {
            text.append(' ').append(x.block(place));
        }
    }

    /** The latest run and the counts. */
    private static void tellNumbers(StringBuilder text, RowImprover x) {
        for (int what = 0; what < 14; what++) {
            text.append(' ').append(x.result(what));
        }
        for (int what = 0; what < 3; what++) {
            text.append(' ').append(x.count(what));
        }
    }
}
