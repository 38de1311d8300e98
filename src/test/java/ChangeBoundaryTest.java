/** Promises 4 and 5 at their boundaries: each method holds one sentence of the document, or a part of it. */
public final class ChangeBoundaryTest {
    public static void main(String[] args) {
        cancelOfTheFirstAndTheLast();
        cancelNoSuchOrder();
        cancelOfAnotherMember();
        cancelWhatDoesNotRest();
        cancelAfterSettle();
        amendFromOneToOneLess();
        amendOutOfRange();
        amendOfOneThatHasOneLeft();
        amendAfterATrade();
        amendKeepsItsPlace();
        amendIcebergShowsNoMore();
        amendNoSuchOrder();
        amendNothingBeforeBad();
        Check.end();
    }

    /** "Withdraws an order." */
    private static void cancelOfTheFirstAndTheLast() {
        Rows.hold("4: the first and the last order there can be", """
            deposit 0 1000
            120 times place 0 0 buy.LIMIT 20 1
            cancel 0 0 = true
            cancel 0 119 = true
            state 0 = WITHDRAWN
            state 119 = WITHDRAWN
            state 1 = RESTING
            state 118 = RESTING
            depth 0 0 20 = 118
            """);
        Rows.hold("4: what is left stays as it was", Refusals.BUSY + """
            cancel 0 2 = true
            left 2 = 17
            state 2 = WITHDRAWN
            depth 0 0 30 = 4
            ahead 3 = 0
            cancel 1 3 = true
            best 0 0 = NOTHING
            """);
    }

    /** "False when there is no such order" */
    private static void cancelNoSuchOrder() {
        Refusals.hold("4: no such order", Refusals.BUSY, """
            cancel 0 -1 = false
            cancel 0 11 = false
            cancel 0 119 = false
            cancel 0 120 = false
            cancel 0 MIN = false
            cancel 0 MAX = false
            """);
        Refusals.hold("4: no such order of 120", Refusals.FILLED_UP, """
            cancel 0 120 = false
            cancel 1 120 = false
            cancel 2 120 = false
            cancel 2 -1 = false
            """);
    }

    /** "of the member" */
    private static void cancelOfAnotherMember() {
        Refusals.hold("4: not of the member", Refusals.BUSY, """
            cancel 1 2 = false
            cancel 4 2 = false
            cancel -1 2 = false
            cancel 5 2 = false
            cancel MIN 2 = false
            cancel MAX 2 = false
            """);
    }

    /** "that is resting" */
    private static void cancelWhatDoesNotRest() {
        Refusals.hold("4: not resting", Refusals.BUSY, """
            cancel 0 0 = false
            cancel 1 1 = false
            cancel 3 6 = false
            cancel 0 7 = false
            cancel 0 10 = false
            """);
        Refusals.hold("4: withdrawn already", Refusals.BUSY + "cancel 0 2", "cancel 0 2 = false");
        Refusals.hold("4: the rest of a NOW", Refusals.BUSY + "place 0 0 buy.NOW 34 20", "cancel 0 11 = false");
    }

    /** "that is resting": none is after the end of a day. */
    private static void cancelAfterSettle() {
        Refusals.hold("4: withdrawn at the end of the day", Refusals.BUSY + "settle", """
            cancel 0 2 = false
            cancel 2 9 = false
            """);
    }

    /** "Makes what is left of an order less"; "quantity is not from 1 to what is left, less 1" */
    private static void amendFromOneToOneLess() {
        Rows.hold("5: one less", Refusals.BUSY + """
            amend 1 3 3 = 0
            left 3 = 3
            amend 1 3 2 = 0
            left 3 = 2
            risk 1 = 43
            """);
        Rows.hold("5: 1", Refusals.BUSY + """
            amend 1 3 1 = 0
            left 3 = 1
            state 3 = RESTING
            depth 0 0 30 = 3
            """);
        Rows.hold("5: one less than the most there can be", """
            deposit 0 1000
            place 0 0 buy.LIMIT 20 99
            amend 0 0 99 = BAD
            amend 0 0 98 = 0
            left 0 = 98
            risk 0 = 294
            """);
    }

    /** "BAD when quantity is not from 1 to what is left, less 1" */
    private static void amendOutOfRange() {
        Refusals.hold("5: too small and too large", Refusals.BUSY, """
            amend 1 3 0 = BAD
            amend 1 3 -1 = BAD
            amend 1 3 4 = BAD
            amend 1 3 5 = BAD
            amend 1 3 99 = BAD
            amend 1 3 MIN = BAD
            amend 1 3 MAX = BAD
            amend 0 2 0 = BAD
            amend 0 2 17 = BAD
            amend 0 2 18 = BAD
            amend 0 2 20 = BAD
            """);
    }

    /** "from 1 to what is left, less 1": where 1 is left, there is no such quantity. */
    private static void amendOfOneThatHasOneLeft() {
        Refusals.hold("5: 1 can't be made less", Refusals.BUSY + "amend 1 3 1", """
            amend 1 3 0 = BAD
            amend 1 3 1 = BAD
            amend 1 3 2 = BAD
            """);
    }

    /** It is what is left that counts, not the quantity of the start. */
    private static void amendAfterATrade() {
        String traded = Refusals.BUSY + "place 0 0 buy.NOW 34 3\nplace 0 0 buy.NOW 34 5\n";
        Refusals.hold("5: what is left after a trade", traded, """
            amend 3 5 2 = BAD
            amend 3 5 3 = BAD
            amend 3 5 6 = BAD
            """);
        Rows.hold("5: what is left after a trade", traded + """
            left 5 = 2
            amend 3 5 1 = 0
            left 5 = 1
            """);
    }

    /** "it keeps its place" */
    private static void amendKeepsItsPlace() {
        Rows.hold("5: the first of its queue", Refusals.BUSY + """
            amend 0 2 16 = 0
            ahead 2 = 0
            ahead 3 = 2
            place 2 0 sell.NOW 30 2 = 11
            trade 3 0 = 2
            ahead 3 = 0
            ahead 2 = 4
            """);
        Rows.hold("5: in the midst of its queue", """
            deposit 0 1000
            place 0 0 sell.LIMIT 20 9
            place 0 0 sell.LIMIT 20 8
            place 0 0 sell.LIMIT 20 7
            amend 0 1 1 = 0
            ahead 1 = 9
            ahead 2 = 10
            """);
    }

    /** "(and an ICEBERG shows no more than that)" */
    private static void amendIcebergShowsNoMore() {
        // ICEBERG 2 shows 2 of 17 before the 4 of order 3.
        Rows.hold("5: more than it shows", Refusals.BUSY + "amend 0 2 3 = 0\ndepth 0 0 30 = 6\nahead 3 = 2");
        Rows.hold("5: just what it shows", Refusals.BUSY + "amend 0 2 2 = 0\ndepth 0 0 30 = 6\nahead 3 = 2");
        Rows.hold("5: less than it shows", Refusals.BUSY + "amend 0 2 1 = 0\ndepth 0 0 30 = 5\nahead 3 = 1");
        Rows.hold("5: an ICEBERG that shows 5", """
            deposit 0 1000
            place 0 0 buy.ICEBERG 30 7
            amend 0 0 6 = 0
            depth 0 0 30 = 5
            amend 0 0 5 = 0
            depth 0 0 30 = 5
            amend 0 0 4 = 0
            depth 0 0 30 = 4
            left 0 = 4
            """);
    }

    /** "NOTHING when there is no such order of the member that is resting" */
    private static void amendNoSuchOrder() {
        Refusals.hold("5: no such order", Refusals.BUSY, """
            amend 0 -1 1 = NOTHING
            amend 0 11 1 = NOTHING
            amend 0 119 1 = NOTHING
            amend 0 120 1 = NOTHING
            amend 0 MIN 1 = NOTHING
            amend 0 MAX 1 = NOTHING
            """);
        Refusals.hold("5: not of the member", Refusals.BUSY, """
            amend 1 2 1 = NOTHING
            amend 4 2 1 = NOTHING
            amend -1 2 1 = NOTHING
            amend 5 2 1 = NOTHING
            """);
        Refusals.hold("5: not resting", Refusals.BUSY + "place 0 0 buy.NOW 34 20", """
            amend 0 0 1 = NOTHING
            amend 0 10 1 = NOTHING
            amend 0 11 1 = NOTHING
            """);
        Refusals.hold("5: withdrawn at the end of the day", Refusals.BUSY + "settle", "amend 0 2 1 = NOTHING");
    }

    /** "of several refusals the one named first is answered" */
    private static void amendNothingBeforeBad() {
        Refusals.hold("5: NOTHING before BAD", Refusals.BUSY, """
            amend 0 11 0 = NOTHING
            amend 0 -1 MAX = NOTHING
            amend 1 2 0 = NOTHING
            amend 1 2 17 = NOTHING
            amend 5 2 100 = NOTHING
            amend 0 0 0 = NOTHING
            amend 0 10 2 = NOTHING
            """);
    }
}
