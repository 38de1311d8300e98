/** Promises 6 to 8 at their boundaries: each method holds one sentence of the document, or a part of it. */
public final class CallBoundaryTest {
    private static final String RICH = """
        deposit 0 100000
        deposit 1 100000
        deposit 2 100000
        """;

    public static void main(String[] args) {
        openAnswersHowMuch();
        openNone();
        openWhenOpen();
        closeAnswersNought();
        closeNone();
        closeInACall();
        indicationOfEachPart();
        indicationWithoutACallPrice();
        indicationNoSuchInstrument();
        indicationNoSuchPart();
        indicationNothingBeforeBad();
        indicationChangesNothing();
        Check.end();
    }

    /** "Answers how much is traded." */
    private static void openAnswersHowMuch() {
        Rows.hold("6: nothing", RICH + "open 0 = 0\nopen 1 = 0\ntrades = 0");
        Rows.hold("6: one", RICH + """
            place 0 0 buy.LIMIT 30 1
            place 1 0 sell.LIMIT 30 2
            open 0 = 1
            trades = 1
            """);
        Rows.hold("6: in several trades", RICH + """
            place 0 1 buy.LIMIT 30 99
            place 0 1 buy.LIMIT 30 99
            place 1 1 sell.LIMIT 30 60
            place 1 1 sell.LIMIT 30 99
            open 1 = 159
            trades = 3
            """);
        StringBuilder most = new StringBuilder(RICH);
        for (int pair = 0; pair < 60; pair++) {
            most.append("place 0 0 buy.LIMIT 63 99\nplace 1 0 sell.LIMIT 1 99\n");
        }
        Rows.hold("6: the most that 120 orders can trade", most + """
            indication 0 1 = 5940
            indication 0 2 = 0
            open 0 = 5940
            trades = 60
            position 0 0 = 5940
            owed 1 = 190080
            """);
    }

    /** "BAD when there is none" */
    private static void openNone() {
        Refusals.hold("6: no such instrument", Refusals.BUSY, """
            open -1 = BAD
            open 2 = BAD
            open MIN = BAD
            open MAX = BAD
            """);
    }

    /** "PHASE when it is OPEN" */
    private static void openWhenOpen() {
        Refusals.hold("6: OPEN already", Refusals.BUSY, "open 0 = PHASE");
        Refusals.hold("6: OPEN by a call without a call price", RICH + "open 1", "open 1 = PHASE");
        Refusals.hold("6: OPEN by a call with a call price", Refusals.BUSY + "open 1", "open 1 = PHASE");
        Rows.hold("6: in a CALL again", Refusals.BUSY + """
            close 0 = 0
            open 0 = 0
            open 0 = PHASE
            settle
            open 0 = 0
            open 0 = PHASE
            """);
    }

    /** "The instrument is in a CALL from now on; answers 0." */
    private static void closeAnswersNought() {
        Rows.hold("7: the first and the last instrument", Refusals.BUSY + """
            open 1 = 5
            close 0 = 0
            close 1 = 0
            place 0 0 buy.NOW 34 1 = PHASE
            place 0 0 buy.LIMIT 34 1 = 11
            trades = 4
            state 11 = RESTING
            depth 0 0 30 = 6
            """);
    }

    /** "BAD when there is none" */
    private static void closeNone() {
        Refusals.hold("7: no such instrument", Refusals.BUSY, """
            close -1 = BAD
            close 2 = BAD
            close MIN = BAD
            close MAX = BAD
            """);
    }

    /** "PHASE when it is in one" */
    private static void closeInACall() {
        Refusals.hold("7: in a CALL at first", Refusals.BUSY, "close 1 = PHASE");
        Refusals.hold("7: closed already", Refusals.BUSY + "close 0", "close 0 = PHASE");
        Refusals.hold("7: after the end of the day", Refusals.BUSY + "settle", "close 0 = PHASE\nclose 1 = PHASE");
    }

    /** "part 0 the call price, 1 how much would be traded at it (V), 2 B less S at it" */
    private static void indicationOfEachPart() {
        Rows.hold("8: the first and the last part", Refusals.BUSY + """
            indication 1 0 = 45
            indication 1 1 = 5
            indication 1 2 = -3
            open 1 = 5
            trade 3 2 = 45
            """);
        Rows.hold("8: the least call price and the greatest", RICH + """
            place 0 0 buy.LIMIT 1 2
            place 1 0 sell.LIMIT 1 1
            indication 0 0 = 1
            indication 0 1 = 1
            indication 0 2 = 1
            place 0 1 buy.LIMIT 63 1
            place 1 1 sell.LIMIT 63 2
            indication 1 0 = 63
            indication 1 1 = 1
            indication 1 2 = -1
            """);
    }

    /** "NOTHING when there is no call price" */
    private static void indicationWithoutACallPrice() {
        String parts = "indication 0 0 = NOTHING\nindication 0 1 = NOTHING\nindication 0 2 = NOTHING\n";
        Refusals.hold("8: no orders", RICH, parts);
        Refusals.hold("8: only buys", RICH + "place 0 0 buy.LIMIT 63 9", parts);
        Refusals.hold("8: only sells", RICH + "place 0 0 sell.LIMIT 1 9", parts);
        Refusals.hold("8: one price apart", RICH + "place 0 0 buy.LIMIT 30 9\nplace 1 0 sell.LIMIT 31 9", parts);
        Refusals.hold("8: while OPEN", Refusals.BUSY, parts);
        Refusals.hold("8: only in the other", RICH + "place 0 1 buy.LIMIT 30 9\nplace 1 1 sell.LIMIT 30 9", parts);
        Rows.hold("8: no price apart", RICH + """
            place 0 0 buy.LIMIT 30 9
            place 1 0 sell.LIMIT 30 9
            indication 0 0 = 30
            cancel 1 1 = true
            indication 0 0 = NOTHING
            """);
    }

    /** "BAD when there is no such instrument" */
    private static void indicationNoSuchInstrument() {
        Refusals.hold("8: no such instrument", Refusals.BUSY, """
            indication -1 0 = BAD
            indication 2 0 = BAD
            indication -1 2 = BAD
            indication 2 2 = BAD
            indication MIN 0 = BAD
            indication MAX 0 = BAD
            indication 2 3 = BAD
            indication -1 -1 = BAD
            """);
        Refusals.hold("8: no such instrument, and no orders", RICH, "indication -1 0 = BAD\nindication 2 0 = BAD");
    }

    /** "or part" */
    private static void indicationNoSuchPart() {
        Refusals.hold("8: no such part", Refusals.BUSY, """
            indication 1 -1 = BAD
            indication 1 3 = BAD
            indication 1 MIN = BAD
            indication 1 MAX = BAD
            """);
    }

    /** "of several refusals the one named first is answered": promise 8 names NOTHING first. */
    private static void indicationNothingBeforeBad() {
        Refusals.hold("8: NOTHING before BAD", Refusals.BUSY, """
            indication 0 -1 = NOTHING
            indication 0 3 = NOTHING
            indication 0 MIN = NOTHING
            indication 0 MAX = NOTHING
            """);
        Rows.hold("8: in a new object", "indication 0 3 = NOTHING\nindication 1 -1 = NOTHING");
    }

    /** "What opening would do as things are" */
    private static void indicationChangesNothing() {
        for (int part = 0; part < 3; part++) {
            Refusals.changesNothing("8: it opens nothing", Refusals.BUSY, "indication 1 " + part);
            Refusals.changesNothing("8: it opens nothing", Refusals.BUSY + "close 0\nplace 0 0 buy.LIMIT 40 9",
                "indication 0 " + part);
        }
    }
}
