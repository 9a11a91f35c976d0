/** Promises 10 and 11: live, block. */
final class FlowTest {
    private static final Check check = new Check();

    public static void main(String[] args) {
        loops();
        liveIsFoundAnew();
        check.end();
    }

    private static void liveDue(String when, RowImprover x, int... due) {
        for (int place = 0; place < due.length; place++) {
            check.due(when + ": live(" + place + ")", x.live(place), due[place]);
        }
    }

    private static void loops() {
        liveDue("either way", Desk.typed(
                Desk.SAME, 1, 1, 3,
                Desk.ADD, 0, 2, 0,
                Desk.JUMP, 0, 0, 2,
                Desk.ADD, 0, 3, 0,
                Desk.JUMP, 0, 0, 4), 14, 4, 0, 8, 0, 14);
        // Register 3 is read only at the head of the loop: it takes a pass more to be seen.
        liveDue("back to the head", Desk.typed(
                Desk.ADDN, 1, 3, 0,
                Desk.ADDN, 2, 0, 1,
                Desk.OTHER, 1, 2, 1,
                Desk.JUMP, 0, 0, 0), 8, 10, 14, 8, 14);
        // A chain of jumps backwards: each pass from the end takes what is live one link on.
        RowImprover chain = new RowImprover();
        Desk.type(chain, Desk.JUMP, 0, 0, 23);
        Desk.type(chain, Desk.STORE, 1, 2, 0, Desk.JUMP, 0, 0, 2);
        for (int place = 3; place < 24; place++) {
            chain.add(Desk.JUMP, 0, 0, place == 3 ? 1 : place - 1);
        }
        for (int place = 0; place < 24; place++) {
            check.due("chain: live(" + place + ")", chain.live(place), place == 2 ? 0 : 6);
        }
    }

    private static void liveIsFoundAnew() {
        RowImprover x = Desk.typed(Desk.ADDN, 1, 2, 0);
        liveDue("one", x, 12, 14);
        x.add(Desk.ADDN, 2, 0, 1);
        liveDue("two", x, 12, 10, 14);
        x.replace(0, Desk.ADDN, 1, 0, 0);
        liveDue("replaced", x, 8, 10, 14);
        x.clear();
        liveDue("cleared", x, 14);
        // In a round without end nothing but itself could keep a register live.
        RowImprover round = Desk.typed(Desk.ADD, 0, 1, 3, Desk.JUMP, 0, 0, 0);
        liveDue("round", round, 10, 10, 14);
        round.replace(0, Desk.ADD, 0, 0, 2);
        liveDue("round with another reader", round, 4, 4, 14);
    }
}
