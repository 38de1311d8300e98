/** Promises 9 to 15 at their boundaries: each method holds one sentence of the document, or a part of it. */
public final class LookBoundaryTest {
    private static final String RICH = """
        deposit 0 100000
        deposit 1 100000
        """;

    public static void main(String[] args) {
        bestAtTheOutermostPrices();
        bestNone();
        bestNoSuch();
        depthOfAQueue();
        depthOfAnEmptyQueue();
        depthNoSuch();
        aheadInAQueue();
        aheadNothing();
        leftOfTheFirstAndTheLast();
        leftNone();
        stateOfEach();
        stateNone();
        tradesCount();
        tradeOfEachPart();
        tradeThatWasNot();
        tradeAmongTheLatestHundred();
        tradeAfterTwoHundred();
        tradeBadPart();
        tradeBadBeforeNothing();
        looksChangeNothing();
        Check.end();
    }

    /** "The best limit of resting orders that buy (side 0: the greatest) or sell (side 1: the least)." */
    private static void bestAtTheOutermostPrices() {
        Rows.hold("9: the outermost prices", RICH + """
            place 0 0 buy.LIMIT 1 1
            place 0 0 sell.LIMIT 63 1
            best 0 0 = 1
            best 0 1 = 63
            place 0 0 buy.LIMIT 2 1
            place 0 0 sell.LIMIT 62 1
            best 0 0 = 2
            best 0 1 = 62
            place 0 0 buy.LIMIT 63 1
            place 0 0 sell.LIMIT 1 1
            best 0 0 = 63
            best 0 1 = 1
            cancel 0 4 = true
            cancel 0 5 = true
            best 0 0 = 2
            best 0 1 = 62
            """);
    }

    /** "NOTHING when there is none" */
    private static void bestNone() {
        Refusals.hold("9: none", "deposit 0 100", """
            best 0 0 = NOTHING
            best 0 1 = NOTHING
            best 1 0 = NOTHING
            best 1 1 = NOTHING
            """);
        Refusals.hold("9: none on this side", RICH + "place 0 0 buy.LIMIT 30 1", """
            best 0 1 = NOTHING
            best 1 0 = NOTHING
            """);
        Rows.hold("9: the last one was filled, withdrawn or settled", RICH + """
            open 0
            place 0 0 buy.LIMIT 30 1
            place 1 0 sell.LIMIT 30 1
            best 0 0 = NOTHING
            place 0 0 buy.LIMIT 30 1
            cancel 0 2 = true
            best 0 0 = NOTHING
            place 0 0 buy.LIMIT 30 1
            settle
            best 0 0 = NOTHING
            """);
    }

    /** "BAD when there is no such instrument or side" */
    private static void bestNoSuch() {
        String rows = """
            best -1 0 = BAD
            best 2 0 = BAD
            best MIN 0 = BAD
            best MAX 1 = BAD
            best 0 -1 = BAD
            best 0 2 = BAD
            best 1 MIN = BAD
            best 1 MAX = BAD
            best 2 2 = BAD
            """;
        Refusals.hold("9: no such instrument or side", Refusals.BUSY, rows);
        Refusals.hold("9: no such instrument or side, and no orders", "deposit 0 100", rows);
    }

    /** "What the orders in a queue show, together." */
    private static void depthOfAQueue() {
        Rows.hold("10: neighbours are other queues", RICH + """
            place 0 0 buy.LIMIT 30 99
            place 1 0 buy.LIMIT 30 99
            place 0 0 buy.LIMIT 29 7
            place 0 0 buy.LIMIT 31 8
            place 0 0 sell.LIMIT 30 9
            place 0 1 buy.LIMIT 30 10
            depth 0 0 30 = 198
            depth 0 0 29 = 7
            depth 0 0 31 = 8
            depth 0 1 30 = 9
            depth 1 0 30 = 10
            """);
        Rows.hold("10: the outermost prices", RICH + """
            place 0 0 buy.LIMIT 1 3
            place 0 0 sell.LIMIT 63 4
            place 0 1 buy.LIMIT 63 5
            place 0 1 sell.LIMIT 1 6
            depth 0 0 1 = 3
            depth 0 1 63 = 4
            depth 1 0 63 = 5
            depth 1 1 1 = 6
            """);
    }

    /** The same sentence for a queue in which no order waits. */
    private static void depthOfAnEmptyQueue() {
        Rows.hold("10: an empty queue shows 0", Refusals.BUSY + """
            depth 0 0 1 = 0
            depth 0 0 63 = 0
            depth 0 1 30 = 0
            depth 0 0 34 = 0
            depth 1 1 50 = 0
            depth 0 1 40 = 0
            """);
    }

    /** "BAD when there is no such instrument, side or price" */
    private static void depthNoSuch() {
        Refusals.hold("10: none such", Refusals.BUSY, """
            depth -1 0 30 = BAD
            depth 2 0 30 = BAD
            depth MIN 0 30 = BAD
            depth MAX 0 30 = BAD
            depth 0 -1 30 = BAD
            depth 0 2 30 = BAD
            depth 0 MIN 30 = BAD
            depth 0 MAX 30 = BAD
            depth 0 0 0 = BAD
            depth 0 0 64 = BAD
            depth 0 1 0 = BAD
            depth 0 1 64 = BAD
            depth 0 0 -1 = BAD
            depth 0 0 MIN = BAD
            depth 0 0 MAX = BAD
            depth 2 2 64 = BAD
            """);
    }

    /** "What the orders before this one in its queue show, together." */
    private static void aheadInAQueue() {
        Rows.hold("11: the first, the second and the last", RICH + """
            119 times place 0 0 buy.LIMIT 30 2
            place 1 0 buy.ICEBERG 30 9
            ahead 0 = 0
            ahead 1 = 2
            ahead 118 = 236
            ahead 119 = 238
            """);
        Rows.hold("11: only its own queue counts", RICH + """
            place 0 0 buy.LIMIT 31 5
            place 0 0 buy.LIMIT 29 5
            place 0 0 sell.LIMIT 30 5
            place 0 1 buy.LIMIT 30 5
            place 0 0 buy.LIMIT 30 5
            place 0 0 buy.ICEBERG 30 9
            place 0 0 buy.LIMIT 30 1
            ahead 4 = 0
            ahead 5 = 5
            ahead 6 = 10
            """);
    }

    /** "NOTHING when there is no such order that is resting" */
    private static void aheadNothing() {
        Refusals.hold("11: no such order", Refusals.BUSY, """
            ahead -1 = NOTHING
            ahead 11 = NOTHING
            ahead 119 = NOTHING
            ahead 120 = NOTHING
            ahead MIN = NOTHING
            ahead MAX = NOTHING
            """);
        Refusals.hold("11: not resting", Refusals.BUSY, """
            ahead 0 = NOTHING
            ahead 1 = NOTHING
            ahead 6 = NOTHING
            ahead 7 = NOTHING
            ahead 10 = NOTHING
            """);
        Rows.hold("11: the last that rests", Refusals.BUSY + "ahead 9 = 0\nahead 3 = 2\nahead 5 = 3");
    }

    /** "What is left of an order" */
    private static void leftOfTheFirstAndTheLast() {
        Rows.hold("12: the first and the last", Refusals.FILLED_UP + """
            left 0 = 2
            left 2 = 1
            left 3 = 0
            left 119 = 1
            """);
    }

    /** "BAD when there is none" */
    private static void leftNone() {
        Refusals.hold("12: none", Refusals.BUSY, """
            left -1 = BAD
            left 11 = BAD
            left 119 = BAD
            left 120 = BAD
            left MIN = BAD
            left MAX = BAD
            """);
        Refusals.hold("12: none of 120", Refusals.FILLED_UP, "left 120 = BAD\nleft 121 = BAD");
        Rows.hold("12: a refused order is none", Refusals.BUSY + "place 4 0 buy.LIMIT 1 1 = RISK\nleft 11 = BAD");
    }

    /** "0 RESTING, 1 FILLED, 2 WITHDRAWN" */
    private static void stateOfEach() {
        Rows.hold("13: each state", Refusals.BUSY + """
            state 0 = 1
            state 1 = 1
            state 2 = 0
            state 9 = 0
            state 10 = 2
            """);
        Rows.hold("13: one left is not filled", RICH + """
            open 0
            place 0 0 buy.LIMIT 30 5
            place 1 0 sell.LIMIT 30 4
            state 0 = RESTING
            state 1 = FILLED
            place 1 0 sell.NOW 30 2
            state 0 = FILLED
            state 2 = WITHDRAWN
            left 2 = 1
            """);
    }

    /** "BAD when there is no such order" */
    private static void stateNone() {
        Refusals.hold("13: none", Refusals.BUSY, """
            state -1 = BAD
            state 11 = BAD
            state 119 = BAD
            state 120 = BAD
            state MIN = BAD
            state MAX = BAD
            """);
        Refusals.hold("13: none of 120", Refusals.FILLED_UP, "state 120 = BAD\nstate 121 = BAD");
    }

    /** "How many trades there were." */
    private static void tradesCount() {
        Rows.hold("14: none, one, and more than are kept", RICH + """
            trades = 0
            open 0
            place 0 0 buy.LIMIT 30 1
            trades = 0
            place 1 0 sell.LIMIT 30 1
            trades = 1
            settle
            trades = 1
            """);
        Rows.hold("14: more than are kept", Refusals.FILLED_UP + "trades = 120");
    }

    /** "Of trade k: part 0 the number of the order that buys, 1 of the one that sells, 2 the price, 3 how much." */
    private static void tradeOfEachPart() {
        Rows.hold("15: a new one that sells and a new one that buys", Refusals.BUSY + """
            trade 1 0 = 2
            trade 1 1 = 6
            trade 1 2 = 30
            trade 1 3 = 3
            trade 2 0 = 7
            trade 2 1 = 4
            trade 2 2 = 34
            trade 2 3 = 2
            """);
    }

    /** "NOTHING when there was none" */
    private static void tradeThatWasNot() {
        Refusals.hold("15: there was none", Refusals.BUSY, """
            trade -1 0 = NOTHING
            trade 3 0 = NOTHING
            trade 3 3 = NOTHING
            trade 99 0 = NOTHING
            trade 100 0 = NOTHING
            trade MIN 0 = NOTHING
            trade MAX 3 = NOTHING
            """);
        Rows.hold("15: none at all", "trade 0 0 = NOTHING\ntrade 0 3 = NOTHING");
    }

    /** A round is 20 trades, 19 of 5 and one of 4, at a price of its own, of orders 2 * round and 2 * round + 1. */
    private static String twentyTrades(int rounds) {
        StringBuilder rows = new StringBuilder(RICH + "open 0\n");
        for (int round = 0; round < rounds; round++) {
            rows.append("place 0 0 buy.ICEBERG ").append(1 + round).append(" 99\n");
            rows.append("place 1 0 sell.LIMIT ").append(1 + round).append(" 99\n");
        }
        return rows.toString();
    }

    private static String one(int price, int quantity) {
        String order = ".LIMIT " + price + " " + quantity + "\n";
        return "place 0 0 buy" + order + "place 1 0 sell" + order;
    }

    /** "or it is not among the latest 100" */
    private static void tradeAmongTheLatestHundred() {
        Rows.hold("15: of 100 all are kept", twentyTrades(5) + """
            trades = 100
            trade 0 0 = 0
            trade 0 1 = 1
            trade 0 2 = 1
            trade 0 3 = 5
            trade 99 0 = 8
            trade 99 3 = 4
            trade 100 0 = NOTHING
            """);
        String oneMore = twentyTrades(5) + one(60, 7);
        Rows.hold("15: of 101 the first is not", oneMore + """
            trades = 101
            trade 0 0 = NOTHING
            trade 1 0 = 0
            trade 1 2 = 1
            trade 99 3 = 4
            trade 100 0 = 10
            trade 100 1 = 11
            trade 100 2 = 60
            trade 100 3 = 7
            trade 101 0 = NOTHING
            """);
        Refusals.hold("15: the first one that is not kept", oneMore, """
            trade 0 0 = NOTHING
            trade 0 1 = NOTHING
            trade 0 2 = NOTHING
            trade 0 3 = NOTHING
            trade -1 0 = NOTHING
            """);
        Rows.hold("15: of 102 the first two are not", oneMore + one(61, 8) + """
            trade 1 0 = NOTHING
            trade 2 3 = 5
            trade 101 2 = 61
            trade 101 3 = 8
            """);
    }

    /** "or it is not among the latest 100", at the second hundred. */
    private static void tradeAfterTwoHundred() {
        Rows.hold("15: 200", twentyTrades(10) + """
            trades = 200
            trade 99 0 = NOTHING
            trade 100 0 = 10
            trade 100 2 = 6
            trade 199 1 = 19
            trade 199 3 = 4
            trade 200 0 = NOTHING
            """);
        Rows.hold("15: 201", twentyTrades(10) + one(60, 7) + """
            trades = 201
            trade 0 0 = NOTHING
            trade 100 0 = NOTHING
            trade 101 0 = 10
            trade 119 3 = 4
            trade 120 0 = 12
            trade 200 0 = 20
            trade 200 3 = 7
            trade 201 0 = NOTHING
            """);
    }

    /** "BAD when part is not 0 .. 3" */
    private static void tradeBadPart() {
        Refusals.hold("15: no such part", Refusals.BUSY, """
            trade 0 -1 = BAD
            trade 0 4 = BAD
            trade 2 -1 = BAD
            trade 2 4 = BAD
            trade 0 MIN = BAD
            trade 0 MAX = BAD
            """);
    }

    /** "(this is looked at first)" */
    private static void tradeBadBeforeNothing() {
        Refusals.hold("15: BAD before NOTHING", Refusals.BUSY, """
            trade -1 -1 = BAD
            trade -1 4 = BAD
            trade 3 -1 = BAD
            trade 3 4 = BAD
            trade MAX MAX = BAD
            trade MIN MIN = BAD
            """);
        String oneMore = twentyTrades(5) + one(60, 7);
        Refusals.hold("15: BAD of one that is not kept", oneMore, "trade 0 4 = BAD\ntrade 0 -1 = BAD");
        Rows.hold("15: BAD in a new object", "trade 0 4 = BAD\ntrade 0 -1 = BAD");
    }

    /** No sentence of promises 9 to 19 says that a look changes something. */
    private static void looksChangeNothing() {
        String[] looks = {"best 0 0", "best 1 1", "depth 0 0 30", "ahead 3", "left 2", "state 2", "trades", "trade 2 3",
            "position 0 0", "money 0", "owed 0", "risk 0"};
        for (String look : looks) {
            Refusals.changesNothing("9 to 19: a look", Refusals.BUSY, look);
        }
    }
}
