/** Promises 10 and 11: live, block. */
final class FlowTest {
    private static final Check check = new Check();

    public static void main(String[] args) {
        readsAndWrites();
        ends();
        loops();
        liveIsFoundAnew();
        blocks();
        wrongInputs();
        check.end();
    }

    private static void liveDue(String when, RowImprover x, int... due) {
        for (int place = 0; place < due.length; place++) {
            check.due(when + ": live(" + place + ")", x.live(place), due[place]);
        }
    }

    private static void readsAndWrites() {
        // Behind each of these a JUMP to itself reads nothing: what is live is what it reads.
        for (int operation = Desk.ADD; operation <= Desk.LESS; operation++) {
            liveDue("plain " + operation,
                    Desk.typed(operation, 1, 2, 3, Desk.JUMP, 0, 0, 1), 12, 0, 14);
            liveDue("plain on itself " + operation,
                    Desk.typed(operation, 3, 3, 0, Desk.JUMP, 0, 0, 1), 8, 0);
        }
        for (int operation = Desk.ADDN; operation <= Desk.LOAD; operation++) {
            liveDue("with a number " + operation,
                    Desk.typed(operation, 1, 2, 3, Desk.JUMP, 0, 0, 1), 4, 0);
            liveDue("of register 0 " + operation,
                    Desk.typed(operation, 1, 0, 3, Desk.JUMP, 0, 0, 1), 0, 0);
        }
        liveDue("STORE", Desk.typed(Desk.STORE, 1, 2, 3, Desk.JUMP, 0, 0, 1), 6, 0);
        liveDue("SAME", Desk.typed(Desk.SAME, 1, 3, 1, Desk.JUMP, 0, 0, 1), 10, 0);
        liveDue("OTHER", Desk.typed(Desk.OTHER, 2, 3, 1, Desk.JUMP, 0, 0, 1), 12, 0);
        // Before the end all are live but what is written first.
        liveDue("LOAD", Desk.typed(Desk.LOAD, 1, 0, 0), 12, 14);
        liveDue("LOAD by itself", Desk.typed(Desk.LOAD, 1, 1, 0), 14, 14);
        liveDue("STORE writes none", Desk.typed(Desk.STORE, 1, 0, 0), 14, 14);
        liveDue("register 0 is written", Desk.typed(Desk.ADD, 0, 0, 0), 14, 14);
        liveDue("three are written", Desk.typed(Desk.ADDN, 1, 0, 0, Desk.ADDN, 2, 1, 0,
                Desk.ADDN, 3, 2, 0), 0, 2, 6, 14);
        liveDue("XOR with itself reads it", Desk.typed(Desk.XOR, 3, 3, 3), 14, 14);
    }

    private static void ends() {
        liveDue("none", new RowImprover(), 14);
        liveDue("HALT", Desk.typed(Desk.HALT, 0, 0, 0, Desk.ADDN, 1, 0, 1), 14, 12, 14);
        liveDue("JUMP out", Desk.typed(Desk.JUMP, 0, 0, 24, Desk.JUMP, 0, 0, 1), 14, 0, 14);
        liveDue("JUMP to the end", Desk.typed(Desk.JUMP, 0, 0, 2, Desk.JUMP, 0, 0, 1), 14, 0, 14);
        liveDue("SAME out", Desk.typed(Desk.SAME, 0, 0, 17, Desk.JUMP, 0, 0, 1), 14, 0, 14);
    }

    private static void loops() {
        liveDue("either way", Desk.typed(
                Desk.SAME, 1, 1, 3,
                Desk.ADD, 0, 2, 0,
                Desk.JUMP, 0, 0, 2,
                Desk.ADD, 0, 3, 0,
                Desk.JUMP, 0, 0, 4), 14, 4, 0, 8, 0, 14);
        // Register 3 is read only at the head of the loop: it takes a pass more to be seen.
        liveDue("back to the head", Desk.typed(
                Desk.ADDN, 1, 3, 0,
                Desk.ADDN, 2, 0, 1,
                Desk.OTHER, 1, 2, 1,
                Desk.JUMP, 0, 0, 0), 8, 10, 14, 8, 14);
        // A chain of jumps backwards: each pass from the end takes what is live one link on.
        RowImprover chain = new RowImprover();
        Desk.type(chain, Desk.JUMP, 0, 0, 23);
        Desk.type(chain, Desk.STORE, 1, 2, 0, Desk.JUMP, 0, 0, 2);
        for (int place = 3; place < 24; place++) {
            chain.add(Desk.JUMP, 0, 0, place == 3 ? 1 : place - 1);
        }
        for (int place = 0; place < 24; place++) {
            check.due("chain: live(" + place + ")", chain.live(place), place == 2 ? 0 : 6);
        }
    }

    private static void liveIsFoundAnew() {
        RowImprover x = Desk.typed(Desk.ADDN, 1, 2, 0);
        liveDue("one", x, 12, 14);
        x.add(Desk.ADDN, 2, 0, 1);
        liveDue("two", x, 12, 10, 14);
        x.replace(0, Desk.ADDN, 1, 0, 0);
        liveDue("replaced", x, 8, 10, 14);
        x.clear();
        liveDue("cleared", x, 14);
        // In a round without end nothing but itself could keep a register live.
        RowImprover round = Desk.typed(Desk.ADD, 0, 1, 3, Desk.JUMP, 0, 0, 0);
        liveDue("round", round, 10, 10, 14);
        round.replace(0, Desk.ADD, 0, 0, 2);
        liveDue("round with another reader", round, 4, 4, 14);
    }

    private static void blocksDue(String when, RowImprover x, int... due) {
        for (int place = 0; place < due.length; place++) {
            check.due(when + ": block(" + place + ")", x.block(place), due[place]);
        }
    }

    private static void blocks() {
        blocksDue("plain", Desk.typed(Desk.ADD, 1, 1, 1, Desk.LOAD, 1, 1, 1,
                Desk.STORE, 1, 1, 1, Desk.SHIFT, 1, 1, 1), 0, 0, 0, 0);
        for (int operation = Desk.SAME; operation <= Desk.HALT; operation++) {
            blocksDue("behind " + operation, Desk.typed(Desk.ADD, 1, 1, 1, operation, 0, 0, 0,
                    Desk.ADD, 1, 1, 1, Desk.ADD, 1, 1, 1), 0, 0, 2, 2);
        }
        for (int operation = Desk.SAME; operation <= Desk.JUMP; operation++) {
            blocksDue("a T further on of " + operation, Desk.typed(operation, 0, 0, 3,
                    Desk.ADD, 1, 1, 1, Desk.ADD, 1, 1, 1, Desk.ADD, 1, 1, 1,
                    Desk.ADD, 1, 1, 1), 0, 1, 1, 3, 3);
            blocksDue("a T further back of " + operation, Desk.typed(Desk.ADD, 1, 1, 1,
                    Desk.ADD, 1, 1, 1, Desk.ADD, 1, 1, 1, operation, 0, 0, 1), 0, 1, 1, 1);
            blocksDue("a T outside of " + operation, Desk.typed(Desk.ADD, 1, 1, 1,
                    Desk.ADD, 1, 1, 1, operation, 0, 0, 24), 0, 0, 0);
        }
        blocksDue("numbers are no places", Desk.typed(Desk.ADDN, 1, 1, 1, Desk.LOAD, 1, 1, 2,
                Desk.STORE, 1, 1, 1, Desk.XORN, 1, 1, 2), 0, 0, 0, 0);
        blocksDue("HALT has no T", Desk.typed(Desk.ADD, 1, 1, 1, Desk.HALT, 0, 0, 0,
                Desk.HALT, 0, 0, 0), 0, 0, 2);
    }

    private static void wrongInputs() {
        RowImprover x = Desk.typed(Desk.ADDN, 1, 1, 3, Desk.JUMP, 0, 0, 7);
        for (int place : new int[] {Integer.MIN_VALUE, -1, 3, 7, 24, 25, Integer.MAX_VALUE}) {
            Desk.refused(check, x, "live(" + place + ")", Desk.INDEX, () -> x.live(place));
            Desk.refused(check, x, "block(" + place + ")", Desk.INDEX, () -> x.block(place));
        }
        check.due("live(size)", x.live(2), 14);
        Desk.refused(check, x, "block(size)", Desk.INDEX, () -> x.block(2));
        RowImprover empty = new RowImprover();
        Desk.refused(check, empty, "block(0) of none", Desk.INDEX, () -> empty.block(0));
        Desk.refused(check, empty, "live(1) of none", Desk.INDEX, () -> empty.live(1));
    }
}
