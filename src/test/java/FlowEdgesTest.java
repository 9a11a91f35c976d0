/** Promises 10 and 11 at the edges that the document names, a test for each sentence. */
final class FlowEdgesTest {
    private static final Check check = new Check();

    public static void main(String[] args) {
        liveIsTheSum();
        liveFrom0ToSize();
        liveOfNoSuchPlace();
        liveIsOneOf1To3();
        liveIsReadBeforeWritten();
        liveReadsAsSaid();
        liveAtHaltAndTheEnd();
        liveInEitherWay();
        liveByTheLongestWay();
        liveInRounds();
        liveOfAProgramThatChanges();
        liveFromTheGreatestT();

        blockBeginsAt0();
        blockBeginsAtEachT();
        blockBeginsBehind();
        blockGoesUpToTheNext();
        blockOfTheFullProgram();
        blockWhereNoneIsThere();
        check.end();
    }

    /** What one instruction reads: behind it a JUMP to itself reads nothing. */
    private static void readsDue(int operation, int d, int s, int t, int due) {
        String when = "instruction " + operation + " " + d + " " + s + " " + t;
        Desk.liveDue(check, when, Desk.typed(operation, d, s, t, Desk.JUMP, 0, 0, 1), due, 0, 14);
    }

    // Promise 10: live

    private static void liveIsTheSum() {
        check.sentence("Promise 10: The registers that are live before a place: the sum of 2^r.");
        readsDue(Desk.ADD, 0, 0, 0, 0);
        readsDue(Desk.ADD, 0, 1, 1, 2);
        readsDue(Desk.ADD, 0, 2, 2, 4);
        readsDue(Desk.ADD, 0, 3, 3, 8);
        readsDue(Desk.ADD, 0, 1, 2, 6);
        readsDue(Desk.ADD, 0, 3, 1, 10);
        readsDue(Desk.ADD, 0, 2, 3, 12);
        readsDue(Desk.HALT, 0, 0, 0, 14);
    }

    private static void liveFrom0ToSize() {
        check.sentence("Promise 10: place is 0 .. size");
        check.due("live(0) of none", new RowImprover().live(0), 14);
        for (int size = 1; size <= 24; size++) {
            RowImprover x = Desk.repeated(size, Desk.LOAD, 1, 0, 0);
            check.due("live(0) of " + size, x.live(0), 12);
            check.due("live(size - 1) of " + size, x.live(size - 1), 12);
            check.due("live(size) of " + size, x.live(size), 14);
        }
    }

    private static void liveOfNoSuchPlace() {
        check.sentence("Promise 10: IndexOutOfBoundsException when place is not 0 .. size");
        for (int size : new int[] {0, 1, 2, 23, 24}) {
            for (int place : Desk.outside(0, size)) {
                Desk.refused(check, "live(" + place + ") of " + size, Desk.INDEX,
                        () -> withSize(size), x -> x.live(place));
            }
        }
        Desk.refused(check, "live(24) of 23", Desk.INDEX, () -> withSize(23), x -> x.live(24));
        Desk.refused(check, "live(24) of 2", Desk.INDEX, () -> withSize(2), x -> x.live(24));
        Desk.refused(check, "live(3) behind clear()", Desk.INDEX, () -> {
            RowImprover x = withSize(24);
            x.clear();
            Desk.type(x, Desk.ADD, 1, 1, 1, Desk.JUMP, 0, 0, 3);
            return x;
        }, x -> x.live(3));
    }

    private static RowImprover withSize(int size) {
        RowImprover x = Desk.experienced();
        for (int place = 0; place < size; place++) {
            x.add(Desk.ADD, place % 4, 1, 2);
        }
        return x;
    }

    private static void liveIsOneOf1To3() {
        check.sentence("Promise 10: LIVE before a place is a register 1 .. 3");
        check.due("live(0) at the end", new RowImprover().live(0), 14);
        for (int operation = Desk.ADD; operation <= Desk.OTHER; operation++) {
            readsDue(operation, 0, 0, 0, 0);
        }
        Desk.liveDue(check, "register 0 is written", Desk.typed(Desk.ADDN, 0, 0, 1), 14, 14);
    }

    private static void liveIsReadBeforeWritten() {
        check.sentence("Promise 10: it can come that it is read before it is written");
        for (int r = 1; r <= 3; r++) {
            int others = 14 - (1 << r);
            Desk.liveDue(check, "written", Desk.typed(Desk.ADDN, r, 0, 1), others, 14);
            Desk.liveDue(check, "loaded", Desk.typed(Desk.LOAD, r, 0, 1), others, 14);
            Desk.liveDue(check, "stored", Desk.typed(Desk.STORE, r, 0, 1), 14, 14);
            Desk.liveDue(check, "read as it is written", Desk.typed(Desk.ADDN, r, r, 1), 14, 14);
            Desk.liveDue(check, "read, then written",
                    Desk.typed(Desk.STORE, r, 0, 0, Desk.LOAD, r, 0, 0), 14, others, 14);
            Desk.liveDue(check, "written, then read",
                    Desk.typed(Desk.LOAD, r, 0, 0, Desk.STORE, r, 0, 0), others, 14, 14);
        }
        Desk.liveDue(check, "never read",
                Desk.typed(Desk.ADDN, 1, 0, 1, Desk.JUMP, 0, 0, 0), 0, 0, 14);
    }

    private static void liveReadsAsSaid() {
        check.sentence("Promise 10: an instruction reads the registers that its operation is said"
                + " to use (SAME, OTHER: D and S; STORE: D and S)");
        for (int operation = Desk.ADD; operation <= Desk.LESS; operation++) {
            readsDue(operation, 1, 2, 3, 12);
            readsDue(operation, 3, 1, 0, 2);
            readsDue(operation, 3, 0, 2, 4);
        }
        for (int operation = Desk.ADDN; operation <= Desk.LOAD; operation++) {
            readsDue(operation, 1, 2, 3, 4);
            readsDue(operation, 2, 3, 1, 8);
            readsDue(operation, 3, 0, 1, 0);
        }
        readsDue(Desk.STORE, 1, 2, 3, 6);
        readsDue(Desk.STORE, 3, 0, 1, 8);
        readsDue(Desk.STORE, 0, 3, 1, 8);
        for (int operation = Desk.SAME; operation <= Desk.OTHER; operation++) {
            readsDue(operation, 1, 3, 1, 10);
            readsDue(operation, 2, 0, 1, 4);
            readsDue(operation, 0, 2, 1, 4);
        }
        readsDue(Desk.JUMP, 0, 0, 1, 0);
        // One that is used twice is read as well.
        for (int r = 1; r <= 3; r++) {
            for (int operation = Desk.STORE; operation <= Desk.OTHER; operation++) {
                readsDue(operation, r, r, 1, 1 << r);
            }
            for (int operation = Desk.ADD; operation <= Desk.LESS; operation++) {
                readsDue(operation, r, r, r, 1 << r);
            }
        }
    }

    private static void liveAtHaltAndTheEnd() {
        check.sentence("Promise 10: HALT and the end read all");
        Desk.liveDue(check, "HALT", Desk.typed(Desk.HALT, 0, 0, 0, Desk.JUMP, 0, 0, 1), 14, 0, 14);
        Desk.liveDue(check, "HALT before what writes",
                Desk.typed(Desk.HALT, 0, 0, 0, Desk.LOAD, 1, 0, 0), 14, 12, 14);
        Desk.liveDue(check, "the end", Desk.typed(Desk.LOAD, 1, 0, 0, Desk.LOAD, 2, 0, 0,
                Desk.LOAD, 3, 0, 0), 0, 2, 6, 14);
    }

    private static void liveInEitherWay() {
        check.sentence("Promise 10: going on in either way where one may go on in two");
        for (int operation = Desk.SAME; operation <= Desk.OTHER; operation++) {
            // Register 1 is compared, register 2 is read on the one way, 3 on the other.
            Desk.liveDue(check, "two ways of " + operation, Desk.typed(
                    operation, 1, 0, 3,
                    Desk.STORE, 2, 0, 0,
                    Desk.JUMP, 0, 0, 2,
                    Desk.STORE, 3, 0, 0,
                    Desk.JUMP, 0, 0, 4), 14, 4, 0, 8, 0, 14);
            // Of a register that is compared with itself no more is known than of others.
            Desk.liveDue(check, "two ways of " + operation + " of one register", Desk.typed(
                    operation, 1, 1, 3,
                    Desk.STORE, 2, 0, 0,
                    Desk.JUMP, 0, 0, 2,
                    Desk.STORE, 3, 0, 0,
                    Desk.JUMP, 0, 0, 4), 14, 4, 0, 8, 0, 14);
            Desk.liveDue(check, "written on one way of " + operation, Desk.typed(
                    operation, 0, 1, 2,
                    Desk.LOAD, 2, 0, 0,
                    Desk.STORE, 2, 0, 0,
                    Desk.JUMP, 0, 0, 3), 6, 0, 4, 0, 14);
            Desk.liveDue(check, "written on both ways of " + operation, Desk.typed(
                    operation, 0, 1, 3,
                    Desk.LOAD, 2, 0, 0,
                    Desk.JUMP, 0, 0, 4,
                    Desk.LOAD, 2, 0, 1,
                    Desk.STORE, 2, 0, 0,
                    Desk.JUMP, 0, 0, 5), 2, 0, 4, 0, 4, 0, 14);
        }
        Desk.liveDue(check, "JUMP goes one way",
                Desk.typed(Desk.JUMP, 0, 0, 2, Desk.STORE, 1, 0, 0, Desk.JUMP, 0, 0, 2),
                0, 2, 0, 14);
    }

    private static void liveByTheLongestWay() {
        check.sentence("Promise 10: if from there on .. it can come (by the longest way)");
        // From place 0 to 23, and by jumps back from each place to the one before it.
        RowImprover back = Desk.typed(Desk.JUMP, 0, 0, 23, Desk.STORE, 1, 2, 0, Desk.JUMP, 0, 0, 2);
        for (int place = 3; place < 24; place++) {
            back.add(Desk.JUMP, 0, 0, place == 3 ? 1 : place - 1);
        }
        for (int place = 0; place < 24; place++) {
            check.due("back: live(" + place + ")", back.live(place), place == 2 ? 0 : 6);
        }
        // From each place to the next one, up to the end.
        RowImprover on = Desk.repeated(24, Desk.STORE, 0, 0, 0);
        for (int place = 0; place <= 24; place++) {
            check.due("on: live(" + place + ")", on.live(place), 14);
        }
    }

    private static void liveInRounds() {
        check.sentence("Promise 10: if from there on .. it can come (in a round)");
        // Register 3 is read only at the head of the round, behind the way back.
        Desk.liveDue(check, "back to the head", Desk.typed(
                Desk.ADDN, 1, 3, 0,
                Desk.ADDN, 2, 0, 1,
                Desk.OTHER, 1, 2, 1,
                Desk.JUMP, 0, 0, 0), 8, 10, 14, 8, 14);
        // In a round without end nothing but what is read there is live.
        Desk.liveDue(check, "without end",
                Desk.typed(Desk.ADD, 0, 1, 3, Desk.JUMP, 0, 0, 0), 10, 10, 14);
        Desk.liveDue(check, "without end or reader",
                Desk.typed(Desk.ADD, 1, 0, 0, Desk.JUMP, 0, 0, 0), 0, 0, 14);
    }

    private static void liveOfAProgramThatChanges() {
        check.sentence("Promise 10: The registers that are live (of the program as it is now)");
        RowImprover x = Desk.typed(Desk.ADDN, 1, 2, 0);
        Desk.liveDue(check, "one", x, 12, 14);
        x.add(Desk.ADDN, 2, 0, 1);
        Desk.liveDue(check, "two", x, 12, 10, 14);
        x.replace(0, Desk.ADDN, 1, 0, 0);
        Desk.liveDue(check, "replaced", x, 8, 10, 14);
        x.clear();
        Desk.liveDue(check, "cleared", x, 14);
        RowImprover round = Desk.typed(Desk.ADD, 0, 1, 3, Desk.JUMP, 0, 0, 0);
        Desk.liveDue(check, "a round", round, 10, 10, 14);
        round.replace(0, Desk.ADD, 0, 0, 2);
        Desk.liveDue(check, "a round with another reader", round, 4, 4, 14);
        round.replace(0, Desk.ADD, 0, 0, 0);
        Desk.liveDue(check, "a round without a reader", round, 0, 0, 14);
    }

    private static void liveFromTheGreatestT() {
        check.sentence("Promise 10: the end read all (at each T where there is no instruction)");
        for (int target = 2; target <= 24; target++) {
            Desk.liveDue(check, "JUMP to " + target,
                    Desk.typed(Desk.JUMP, 0, 0, target, Desk.JUMP, 0, 0, 1), 14, 0, 14);
            Desk.liveDue(check, "SAME to " + target,
                    Desk.typed(Desk.SAME, 1, 2, target, Desk.JUMP, 0, 0, 1), 14, 0, 14);
            Desk.liveDue(check, "OTHER to " + target,
                    Desk.typed(Desk.OTHER, 1, 2, target, Desk.JUMP, 0, 0, 1), 14, 0, 14);
        }
        // From place 23 back to place 0, and from place 0 to place 23.
        RowImprover far = Desk.repeated(24, Desk.JUMP, 0, 0, 1);
        far.replace(0, Desk.STORE, 2, 0, 0);
        far.replace(23, Desk.JUMP, 0, 0, 0);
        check.due("live(23) of a JUMP to 0", far.live(23), 4);
        check.due("live(1) of a JUMP to itself", far.live(1), 0);
        far.replace(0, Desk.JUMP, 0, 0, 23);
        far.replace(23, Desk.STORE, 3, 1, 0);
        check.due("live(0) of a JUMP to 23", far.live(0), 14);
        check.due("live(24)", far.live(24), 14);
    }

    // Promise 11: block

    private static void blocksDue(String when, RowImprover x, int... due) {
        for (int place = 0; place < due.length; place++) {
            check.due(when + ": block(" + place + ")", x.block(place), due[place]);
        }
    }

    private static void blockBeginsAt0() {
        check.sentence("Promise 11: A BLOCK begins at place 0");
        for (int operation = Desk.ADD; operation <= Desk.HALT; operation++) {
            blocksDue("one of operation " + operation, Desk.typed(operation, 0, 0, 0), 0);
        }
        for (int operation = Desk.ADD; operation <= Desk.STORE; operation++) {
            blocksDue("three of operation " + operation,
                    Desk.repeated(3, operation, 1, 1, 1), 0, 0, 0);
        }
    }

    private static void blockBeginsAtEachT() {
        check.sentence("Promise 11: A BLOCK begins .. at each T of SAME, OTHER and JUMP");
        for (int operation = Desk.SAME; operation <= Desk.JUMP; operation++) {
            for (int target = 0; target <= 24; target++) {
                RowImprover x = Desk.repeated(24, Desk.ADDN, 1, 1, 2);
                x.replace(23, operation, 0, 0, target);
                for (int place = 0; place < 24; place++) {
                    check.due("T " + target + " of " + operation + ": block(" + place + ")",
                            x.block(place), place >= target ? target : 0);
                }
            }
        }
    }

    private static void blockBeginsBehind() {
        check.sentence("Promise 11: A BLOCK begins .. behind each of these and HALT");
        for (int operation = Desk.SAME; operation <= Desk.HALT; operation++) {
            int t = operation == Desk.HALT ? 0 : 24;
            blocksDue("behind " + operation, Desk.typed(Desk.LOAD, 1, 1, 1, operation, 0, 0, t,
                    Desk.STORE, 1, 1, 1, Desk.ADD, 1, 1, 1, operation, 0, 0, t,
                    operation, 0, 0, t), 0, 0, 2, 2, 2, 5);
        }
    }

    private static void blockGoesUpToTheNext() {
        check.sentence("Promise 11: it goes up to the next one or the end");
        blocksDue("a T and a JUMP between", Desk.typed(
                Desk.SAME, 1, 2, 3,
                Desk.ADD, 1, 1, 1,
                Desk.ADD, 1, 1, 1,
                Desk.ADD, 1, 1, 1,
                Desk.JUMP, 0, 0, 6,
                Desk.ADD, 1, 1, 1,
                Desk.ADD, 1, 1, 1,
                Desk.ADD, 1, 1, 1), 0, 1, 1, 3, 3, 5, 6, 6);
        // A T at the end or beyond it begins no block at a place before it.
        blocksDue("a T at the end", Desk.typed(Desk.ADD, 1, 1, 1, Desk.ADD, 1, 1, 1,
                Desk.JUMP, 0, 0, 3), 0, 0, 0);
        blocksDue("a T beyond the end", Desk.typed(Desk.ADD, 1, 1, 1, Desk.ADD, 1, 1, 1,
                Desk.JUMP, 0, 0, 24), 0, 0, 0);
        RowImprover later = Desk.typed(Desk.JUMP, 0, 0, 3, Desk.ADD, 1, 1, 1, Desk.ADD, 1, 1, 1);
        later.add(Desk.ADD, 1, 1, 1);
        blocksDue("a T that an add has reached", later, 0, 1, 1, 3);
        later.replace(0, Desk.ADD, 1, 1, 1);
        blocksDue("a T that has gone", later, 0, 0, 0, 0);
        // The T of no other operation is a place.
        for (int operation = Desk.ADD; operation <= Desk.STORE; operation++) {
            blocksDue("T of operation " + operation,
                    Desk.repeated(4, operation, 2, 2, 3), 0, 0, 0, 0);
        }
    }

    private static void blockOfTheFullProgram() {
        check.sentence("Promise 11: Where the block begins to which a place belongs.");
        RowImprover x = Desk.repeated(24, Desk.SAME, 1, 2, 24);
        for (int place = 0; place < 24; place++) {
            check.due("24 blocks: block(" + place + ")", x.block(place), place);
        }
        RowImprover one = Desk.repeated(24, Desk.STORE, 1, 2, 7);
        for (int place = 0; place < 24; place++) {
            check.due("one block: block(" + place + ")", one.block(place), 0);
        }
    }

    private static void blockWhereNoneIsThere() {
        check.sentence("Promise 11: IndexOutOfBoundsException when no instruction is there");
        for (int size : new int[] {0, 1, 2, 23, 24}) {
            for (int place : Desk.outside(0, size - 1)) {
                Desk.refused(check, "block(" + place + ") of " + size, Desk.INDEX,
                        () -> withSize(size), x -> x.block(place));
            }
        }
        Desk.refused(check, "block(23) of 2", Desk.INDEX, () -> withSize(2), x -> x.block(23));
        // Where a T points there may be no instruction.
        Desk.refused(check, "block(7) of a T", Desk.INDEX,
                () -> Desk.experienced(Desk.JUMP, 0, 0, 7), x -> x.block(7));
    }
}
