/** Promises 1 to 6: a new object, add, replace, clear, size, instruction. */
final class ProgramTest {
    private static final int LEAST = Integer.MIN_VALUE;
    private static final int MOST = Integer.MAX_VALUE;
    /** The greatest D (and S) and the greatest T of each operation. */
    private static final int[] GREATEST_D = {3, 3, 3, 3, 3, 3, 3, 3, 3, 3, 3, 3, 3, 3, 0, 0};
    private static final int[] GREATEST_T =
            {3, 3, 3, 3, 3, 3, 15, 15, 15, 15, 7, 7, 24, 24, 24, 0};

    private static final Check check = new Check();

    public static void main(String[] args) {
        newObject();
        fieldsOfEveryOperation();
        addWhenFull();
        addKeepsOrder();
        replace();
        clear();
        instruction();
        check.end();
    }

    private static void newObject() {
        RowImprover x = new RowImprover();
        check.due("new: size()", x.size(), 0);
        for (int what = 0; what <= 13; what++) {
            check.due("new: result(" + what + ")", x.result(what), 0);
        }
        for (int what = 0; what <= 2; what++) {
            check.due("new: count(" + what + ")", x.count(what), 0);
        }
        check.due("new: live(0)", x.live(0), 14);
        check.due("new: improve()", x.improve(), 0);
        Desk.type(x, Desk.HALT, 0, 0, 0);
        check.due("new: run(1)", x.run(1), 1);
        for (int what = 0; what <= 11; what++) {
            check.due("start values are 0: result(" + what + ")", x.result(what), 0);
        }
    }

    private static void fieldsOfEveryOperation() {
        int[] tried = {LEAST, -1, 0, 1, 3, 4, 7, 8, 15, 16, 24, 25, MOST};
        for (int operation = 0; operation <= 15; operation++) {
            for (int value : tried) {
                boolean registerDoes = value >= 0 && value <= GREATEST_D[operation];
                boolean tDoes = value >= 0 && value <= GREATEST_T[operation];
                tryFields(registerDoes, operation, value, 0, 0);
                tryFields(registerDoes, operation, 0, value, 0);
                tryFields(tDoes, operation, 0, 0, value);
            }
        }
        for (int operation : new int[] {LEAST, -1, 16, 17, 32, MOST}) {
            tryFields(false, operation, 0, 0, 0);
        }
    }

    private static void tryFields(boolean legal, int operation, int d, int s, int t) {
        String fields = operation + ", " + d + ", " + s + ", " + t + ")";
        RowImprover x = Desk.typed(Desk.SUB, 1, 2, 3);
        if (legal) {
            check.due("add(" + fields, x.add(operation, d, s, t), 1);
            Desk.programDue(check, "add(" + fields, x, Desk.SUB, 1, 2, 3, operation, d, s, t);
            x.replace(0, operation, d, s, t);
            Desk.programDue(check, "replace(0, " + fields, x,
                    operation, d, s, t, operation, d, s, t);
        } else {
            Desk.refused(check, x, "add(" + fields, Desk.ARGUMENT,
                    () -> x.add(operation, d, s, t));
            Desk.refused(check, x, "replace(0, " + fields, Desk.ARGUMENT,
                    () -> replaced(x, 0, operation, d, s, t));
            Desk.refused(check, x, "replace(9, " + fields, Desk.ARGUMENT,
                    () -> replaced(x, 9, operation, d, s, t));
        }
    }

    private static long replaced(RowImprover x, int place, int operation, int d, int s, int t) {
        x.replace(place, operation, d, s, t);
        return 0;
    }

    private static void addWhenFull() {
        RowImprover x = new RowImprover();
        for (int place = 0; place < 24; place++) {
            check.due("add number " + place, x.add(Desk.ADDN, 1, 1, place % 16), place);
            check.due("size() behind it", x.size(), place + 1);
        }
        Desk.refused(check, x, "add to 24", Desk.STATE, () -> x.add(Desk.ADD, 1, 1, 1));
        Desk.refused(check, x, "wrong add to 24", Desk.ARGUMENT, () -> x.add(Desk.ADD, 1, 1, 4));
        x.replace(23, Desk.JUMP, 0, 0, 24);
        check.due("replace(23, ..) of 24", x.instruction(23, 0), Desk.JUMP);
        check.due("clear() of 24", x.clear(), 24);
        check.due("add behind clear", x.add(Desk.HALT, 0, 0, 0), 0);
    }

    private static void addKeepsOrder() {
        RowImprover x = Desk.typed(Desk.XORN, 3, 2, 9, Desk.SAME, 1, 2, 24, Desk.STORE, 2, 3, 7);
        Desk.programDue(check, "three", x,
                Desk.XORN, 3, 2, 9, Desk.SAME, 1, 2, 24, Desk.STORE, 2, 3, 7);
    }

    private static void replace() {
        RowImprover x = Desk.typed(Desk.ADD, 1, 2, 3, Desk.HALT, 0, 0, 0, Desk.OR, 3, 2, 1);
        x.replace(1, Desk.OTHER, 3, 1, 17);
        Desk.programDue(check, "replaced", x,
                Desk.ADD, 1, 2, 3, Desk.OTHER, 3, 1, 17, Desk.OR, 3, 2, 1);
        for (int place : new int[] {LEAST, -1, 3, 4, 24, MOST}) {
            Desk.refused(check, x, "replace(" + place + ", ..)", Desk.INDEX,
                    () -> replaced(x, place, Desk.HALT, 0, 0, 0));
        }
        RowImprover empty = new RowImprover();
        Desk.refused(check, empty, "replace(0, ..) of none", Desk.INDEX,
                () -> replaced(empty, 0, Desk.HALT, 0, 0, 0));
    }

    private static void clear() {
        RowImprover x = Desk.typed(Desk.ADDN, 1, 0, 5, Desk.ADD, 2, 2, 0, Desk.STORE, 1, 0, 2);
        x.start(3, 7);
        x.run(2);
        x.improve();
        int lookedAt = x.count(2);
        check.due("clear()", x.clear(), 2);
        check.due("size() behind it", x.size(), 0);
        check.due("clear() again", x.clear(), 0);
        check.due("the latest run stands", x.result(1), 5);
        check.due("the count stands", x.count(0), 1);
        check.due("the candidates stand", x.count(2), lookedAt);
        Desk.refused(check, x, "instruction(0, 0) of none", Desk.INDEX, () -> x.instruction(0, 0));
        x.run(0);
        check.due("start values stand", x.result(3), 7);
    }

    private static void instruction() {
        RowImprover x = Desk.typed(Desk.ADD, 1, 2, 3, Desk.SHIFT, 3, 2, 15);
        for (int what : new int[] {LEAST, -1, 4, MOST}) {
            Desk.refused(check, x, "instruction(0, " + what + ")", Desk.ARGUMENT,
                    () -> x.instruction(0, what));
            Desk.refused(check, x, "instruction(5, " + what + ")", Desk.ARGUMENT,
                    () -> x.instruction(5, what));
        }
        for (int place : new int[] {LEAST, -1, 2, 24, MOST}) {
            Desk.refused(check, x, "instruction(" + place + ", 3)", Desk.INDEX,
                    () -> x.instruction(place, 3));
        }
    }
}
