/** The terms at their boundaries, but for the call price: each method holds one sentence of them, or a part of it. */
public final class TermsBoundaryTest {
    private static final String RICH = """
        deposit 0 100000
        deposit 1 100000
        deposit 2 100000
        """;
    private static final String OPEN = RICH + "open 0\nopen 1\n";

    public static void main(String[] args) {
        fiveHundredAndTwelveCalls();
        objectsAreApart();
        allIsNoughtAtFirst();
        numbersOfOrders();
        statesOfOrders();
        queues();
        icebergShowsAtMostFive();
        nowIsWithdrawn();
        goodPrices();
        everyPriceIsGoodForMarket();
        newOrdersInACall();
        meetsAsLongAsSomethingIsLeft();
        meetsAsManyAsThereCanBe();
        meetsTheBestLimitFirst();
        meetsItsOwn();
        tradesTheLesser();
        icebergShowsAnew();
        icebergGoesToTheEndOfItsQueue();
        restOfTheNewOne();
        aTradeChangesBoth();
        theScenesAreAsTold();
        aRefusedCallChangesNothing();
        Check.end();
    }

    /** "An object is used for at most 512 calls after it has been made" */
    private static void fiveHundredAndTwelveCalls() {
        Rows.hold("the 512th call is answered still", RICH + """
            open 0
            120 times place 0 0 buy.LIMIT 30 1
            387 times depth 0 0 30 = 120
            place 1 0 sell.LIMIT 30 1 = FULL
            """);
        Rows.hold("the 512th call is carried out still", RICH + """
            place 0 0 buy.LIMIT 30 7
            place 1 0 sell.LIMIT 30 5
            506 times state 0 = RESTING
            open 0 = 5
            """);
    }

    /** "CallMarket(): No orders and trades", whatever other objects there are. */
    private static void objectsAreApart() {
        Rows one = new Rows("the one object").run(Refusals.BUSY);
        Rows other = new Rows("the other object").run("trades = 0\nstate 0 = BAD\nmoney 0 = 0\nclose 0 = PHASE");
        one.run("trades = 3\nstate 0 = FILLED\nmoney 0 = 1000\nclose 0 = 0");
        other.run("settle = 0\nindication 1 0 = NOTHING");
        one.run("indication 1 0 = 45\nowed 0 = -398");
    }

    /** "MONEY (a long), 0 at first, of each instrument a POSITION, 0 at first, and what it is OWED .. 0 at first" */
    private static void allIsNoughtAtFirst() {
        for (int member = 0; member < 5; member++) {
            String at = " " + member;
            Rows.hold("0 at first", "money" + at + " = 0\nowed" + at + " = 0\nrisk" + at + " = 0\n"
                + "position" + at + " 0 = 0\nposition" + at + " 1 = 0");
        }
    }

    /** "ORDERS have numbers 0, 1, .. in the order in which they were accepted, at most 120." */
    private static void numbersOfOrders() {
        Rows.hold("numbers of both instruments together", RICH + """
            place 0 0 buy.LIMIT 30 1 = 0
            place 1 1 buy.LIMIT 30 1 = 1
            place 1 1 buy.LIMIT 30 100 = BAD
            place 1 1 buy.NOW 30 1 = PHASE
            place 4 1 buy.LIMIT 30 1 = RISK
            place 2 0 sell.LIMIT 30 1 = 2
            cancel 2 2 = true
            place 2 0 sell.LIMIT 30 1 = 3
            115 times place 0 0 buy.LIMIT 30 1
            place 0 0 buy.LIMIT 29 1 = 119
            place 0 0 buy.LIMIT 29 1 = FULL
            """);
    }

    /** "It is RESTING, FILLED (nothing is left), or WITHDRAWN (what is left stays as it was then)." */
    private static void statesOfOrders() {
        Rows.hold("what is left in each state", OPEN + """
            place 0 0 buy.LIMIT 30 9
            state 0 = RESTING
            left 0 = 9
            place 1 0 sell.LIMIT 30 8
            state 0 = RESTING
            left 0 = 1
            place 1 0 sell.LIMIT 30 1
            state 0 = FILLED
            left 0 = 0
            place 0 0 buy.LIMIT 30 9
            place 1 0 sell.LIMIT 30 2
            amend 0 3 6
            cancel 0 3
            place 1 0 sell.LIMIT 30 2
            state 3 = WITHDRAWN
            left 3 = 6
            settle
            left 3 = 6
            """);
    }

    /** "Resting orders of the same instrument, side and limit wait in a QUEUE." */
    private static void queues() {
        Rows.hold("instrument, side and limit", RICH + """
            place 0 0 buy.LIMIT 30 1
            place 0 1 buy.LIMIT 30 2
            place 0 0 sell.LIMIT 30 3
            place 0 0 buy.LIMIT 31 4
            place 0 0 buy.LIMIT 29 5
            place 1 0 buy.LIMIT 30 6
            ahead 1 = 0
            ahead 2 = 0
            ahead 3 = 0
            ahead 4 = 0
            ahead 5 = 1
            depth 0 0 30 = 7
            """);
    }

    /** "5 ICEBERG: shows at most 5 at a time"; "showing 5 or what is left when that is less" */
    private static void icebergShowsAtMostFive() {
        int[] quantities = {1, 4, 5, 6, 99};
        for (int quantity : quantities) {
            String rows = "place 0 0 buy.ICEBERG 30 " + quantity + " = 0\nleft 0 = " + quantity
                + "\ndepth 0 0 30 = " + Math.min(5, quantity) + "\nplace 1 0 buy.LIMIT 30 9 = 1\nahead 1 = "
                + Math.min(5, quantity);
            Rows.hold("an ICEBERG of " + quantity + " in a CALL", RICH + rows);
            Rows.hold("an ICEBERG of " + quantity + " while OPEN", OPEN + rows);
        }
        Rows.hold("an order of another kind shows all", OPEN + """
            place 0 0 buy.LIMIT 30 99
            place 0 0 buy.POST 29 99
            depth 0 0 30 = 99
            depth 0 0 29 = 99
            """);
    }

    /** "1 NOW: what can't be traded at once is withdrawn."; "3 MARKET: as NOW" */
    private static void nowIsWithdrawn() {
        String[] kinds = {"NOW", "MARKET"};
        for (String kind : kinds) {
            String call = "place 1 0 sell." + kind + " 30 ";
            String five = OPEN + "place 0 0 buy.LIMIT 30 5\n";
            Rows.hold(kind + ": none can be traded", OPEN + call + "5 = 0\nstate 0 = WITHDRAWN\nleft 0 = 5\n"
                + "best 0 1 = NOTHING\nrisk 1 = 0");
            Rows.hold(kind + ": one can't", five + call + "6 = 1\nstate 1 = WITHDRAWN\nleft 1 = 1\nbest 0 1 = NOTHING");
            Rows.hold(kind + ": all can be", five + call + "5 = 1\nstate 1 = FILLED\nleft 1 = 0");
            Rows.hold(kind + ": less than there is", five + call + "4 = 1\nstate 1 = FILLED\nleft 0 = 1");
        }
    }

    /** "GOOD .. when it is at most the limit of one that buys, at least that of one that sells" */
    private static void goodPrices() {
        String sells = OPEN + "place 0 0 sell.LIMIT 30 5\n";
        Rows.hold("one price below does not meet", sells + "place 1 0 buy.LIMIT 29 5 = 1\ntrades = 0\nbest 0 0 = 29");
        Rows.hold("the same price meets", sells + "place 1 0 buy.LIMIT 30 5 = 1\ntrades = 1\ntrade 0 2 = 30");
        Rows.hold("one price above meets", sells + "place 1 0 buy.LIMIT 31 5 = 1\ntrades = 1\ntrade 0 2 = 30");
        String buys = OPEN + "place 0 0 buy.LIMIT 30 5\n";
        Rows.hold("one price above does not meet", buys + "place 1 0 sell.LIMIT 31 5 = 1\ntrades = 0\nbest 0 1 = 31");
        Rows.hold("the same price meets", buys + "place 1 0 sell.LIMIT 30 5 = 1\ntrades = 1\ntrade 0 2 = 30");
        Rows.hold("one price below meets", buys + "place 1 0 sell.LIMIT 29 5 = 1\ntrades = 1\ntrade 0 2 = 30");
        Rows.hold("the outermost prices", OPEN + """
            place 0 0 sell.LIMIT 63 1
            place 1 0 buy.LIMIT 62 1 = 1
            trades = 0
            place 1 0 buy.LIMIT 63 1 = 2
            trade 0 2 = 63
            cancel 1 1
            place 0 0 buy.LIMIT 1 1
            place 1 0 sell.LIMIT 2 1 = 4
            trades = 1
            place 1 0 sell.LIMIT 1 1 = 5
            trade 1 2 = 1
            """);
    }

    /** "for MARKET every price" */
    private static void everyPriceIsGoodForMarket() {
        Rows.hold("from the least to the greatest", OPEN + """
            place 0 0 sell.LIMIT 63 1
            place 1 0 buy.MARKET 1 1 = 1
            trade 0 2 = 63
            place 0 0 buy.LIMIT 1 1
            place 1 0 sell.MARKET 63 1 = 3
            trade 1 2 = 1
            place 0 1 sell.LIMIT 1 1
            place 0 1 sell.LIMIT 63 1
            place 1 1 buy.MARKET 0 2 = 6
            state 6 = FILLED
            trade 2 2 = 1
            trade 3 2 = 63
            """);
    }

    /** "A new order that is accepted in a CALL comes to the end of its queue" */
    private static void newOrdersInACall() {
        Rows.hold("even where it could meet, and its own", RICH + """
            place 0 0 sell.LIMIT 30 5
            place 1 0 buy.LIMIT 31 6
            place 0 0 buy.LIMIT 31 7
            place 1 0 buy.ICEBERG 31 8
            trades = 0
            state 0 = RESTING
            ahead 1 = 0
            ahead 2 = 6
            ahead 3 = 13
            depth 0 0 31 = 18
            best 0 0 = 31
            best 0 1 = 30
            """);
    }

    /** "as long as something of it is left and some order of the other side rests whose limit is good for it" */
    private static void meetsAsLongAsSomethingIsLeft() {
        String sells = OPEN + """
            place 0 0 sell.LIMIT 30 5
            place 0 0 sell.LIMIT 31 5
            place 1 0 sell.LIMIT 31 5
            place 1 0 sell.LIMIT 32 5
            """;
        Rows.hold("just filled: the next is not met", sells + """
            place 1 0 buy.LIMIT 32 10 = 4
            state 4 = FILLED
            trades = 2
            state 2 = RESTING
            left 2 = 5
            """);
        Rows.hold("one is left: its own are met and withdrawn", sells + """
            place 1 0 buy.LIMIT 32 11 = 4
            trades = 2
            state 2 = WITHDRAWN
            state 3 = WITHDRAWN
            state 4 = RESTING
            left 4 = 1
            depth 0 0 32 = 1
            """);
        Rows.hold("those whose limit is not good are not met", sells + """
            place 1 0 buy.LIMIT 31 11 = 4
            state 2 = WITHDRAWN
            state 3 = RESTING
            left 4 = 1
            best 0 0 = 31
            best 0 1 = 32
            """);
    }

    /** The same sentence where as much is met as can be: every order but one rests on the other side. */
    private static void meetsAsManyAsThereCanBe() {
        Rows.hold("119 of its own", OPEN + """
            119 times place 0 0 sell.LIMIT 30 1
            place 0 0 buy.LIMIT 30 1 = 119
            state 0 = WITHDRAWN
            state 118 = WITHDRAWN
            best 0 1 = NOTHING
            state 119 = RESTING
            trades = 0
            """);
        Rows.hold("118 of its own and an ICEBERG in 20 trades", OPEN + """
            118 times place 0 0 sell.LIMIT 29 1
            place 1 0 sell.ICEBERG 30 99
            place 0 0 buy.MARKET 0 99 = 119
            state 117 = WITHDRAWN
            state 118 = FILLED
            state 119 = FILLED
            trades = 20
            """);
        Rows.hold("119 of others, and 20 more than can be met", OPEN + """
            119 times place 1 0 buy.LIMIT 30 1
            place 0 0 sell.NOW 30 99 = 119
            state 119 = FILLED
            trades = 99
            state 98 = FILLED
            state 99 = RESTING
            depth 0 0 30 = 20
            """);
    }

    /** "the first one in the queue with the best limit (the least for one that buys, the greatest for .. sells)" */
    private static void meetsTheBestLimitFirst() {
        Rows.hold("the least for one that buys", OPEN + """
            place 0 0 sell.LIMIT 2 1
            place 0 0 sell.LIMIT 1 1
            place 2 0 sell.LIMIT 1 1
            place 1 0 buy.LIMIT 63 3
            trade 0 1 = 1
            trade 1 1 = 2
            trade 2 1 = 0
            trade 2 2 = 2
            """);
        Rows.hold("the greatest for one that sells", OPEN + """
            place 0 0 buy.LIMIT 62 1
            place 0 0 buy.LIMIT 63 1
            place 2 0 buy.LIMIT 63 1
            place 1 0 sell.LIMIT 1 3
            trade 0 0 = 1
            trade 1 0 = 2
            trade 2 0 = 0
            trade 2 2 = 62
            """);
    }

    /** "when that is of the same member, that one is withdrawn" */
    private static void meetsItsOwn() {
        Rows.hold("only its own rest", OPEN + """
            place 0 0 sell.LIMIT 30 5
            place 0 0 sell.ICEBERG 30 55
            place 0 0 buy.LIMIT 30 1 = 2
            state 0 = WITHDRAWN
            left 0 = 5
            state 1 = WITHDRAWN
            left 1 = 55
            state 2 = RESTING
            trades = 0
            position 0 0 = 0
            risk 0 = 3
            """);
        Rows.hold("the last member's too", OPEN + """
            deposit 4 1000
            place 4 0 buy.LIMIT 30 5
            place 4 0 sell.MARKET 30 5 = 1
            state 0 = WITHDRAWN
            state 1 = WITHDRAWN
            left 1 = 5
            trades = 0
            """);
        Rows.hold("the reference stays without a trade", OPEN + """
            place 0 0 sell.LIMIT 50 5
            place 0 0 buy.LIMIT 50 5
            close 0
            cancel 0 1
            place 0 0 sell.LIMIT 1 5
            place 0 0 buy.LIMIT 63 5
            indication 0 0 = 32
            """);
    }

    /** "they TRADE the lesser of what the new one has left and what the resting one shows, at the limit of the .." */
    private static void tradesTheLesser() {
        int[] wanted = {4, 5, 6};
        for (int quantity : wanted) {
            int first = Math.min(5, quantity);
            String buys = "place 1 0 buy.LIMIT 33 " + quantity + "\ntrade 0 2 = 30\ntrade 0 3 = " + first + "\n";
            Rows.hold("a LIMIT of 5 and " + quantity, OPEN + "place 0 0 sell.LIMIT 30 5\n" + buys
                + "trades = 1\nleft 0 = " + (5 - first) + "\nleft 1 = " + (quantity - first));
            Rows.hold("an ICEBERG that shows 5 and " + quantity, OPEN + "place 0 0 sell.ICEBERG 30 50\n" + buys
                + "trades = " + (quantity > 5 ? 2 : 1) + "\nleft 0 = " + (50 - quantity) + "\nleft 1 = 0\n"
                + "depth 0 1 30 = " + (quantity < 5 ? 1 : 10 - quantity));
        }
    }

    /** "an ICEBERG that shows nothing any more but has something left shows 5, or what is left when that is less" */
    private static void icebergShowsAnew() {
        int[] quantities = {5, 6, 9, 10, 11};
        for (int quantity : quantities) {
            int rest = quantity - 5;
            Rows.hold("an ICEBERG of " + quantity + " after 5", OPEN + "place 0 0 sell.ICEBERG 30 " + quantity
                + "\nplace 1 0 buy.NOW 30 5\nleft 0 = " + rest + "\nstate 0 = " + (rest == 0 ? "FILLED" : "RESTING")
                + "\ndepth 0 1 30 = " + Math.min(5, rest));
        }
        Rows.hold("it shows something still", OPEN + """
            place 0 0 sell.ICEBERG 30 9
            place 1 0 buy.NOW 30 4
            depth 0 1 30 = 1
            place 1 0 buy.NOW 30 1
            depth 0 1 30 = 4
            place 1 0 buy.NOW 30 4
            state 0 = FILLED
            """);
    }

    /** "and goes to the end of its queue" */
    private static void icebergGoesToTheEndOfItsQueue() {
        String queue = OPEN + """
            place 0 0 sell.ICEBERG 30 9
            place 1 0 sell.LIMIT 30 3
            place 1 0 sell.LIMIT 31 7
            """;
        Rows.hold("one is shown still: it keeps its place", queue + "place 2 0 buy.NOW 30 4\nahead 0 = 0\nahead 1 = 1");
        Rows.hold("none is shown: behind its queue, before the next", queue + """
            place 2 0 buy.NOW 30 5
            ahead 1 = 0
            ahead 0 = 3
            ahead 2 = 0
            best 0 1 = 30
            place 2 0 buy.NOW 31 8
            trade 1 1 = 1
            trade 2 1 = 0
            trade 3 1 = 2
            trade 3 3 = 1
            """);
        Rows.hold("alone in its queue it is met again", OPEN + """
            place 0 0 buy.ICEBERG 30 12
            place 1 0 sell.LIMIT 30 12
            trades = 3
            trade 2 3 = 2
            state 0 = FILLED
            """);
    }

    /** "Then, if something of the new one is left, it comes to the end of its queue, an ICEBERG showing 5 or .." */
    private static void restOfTheNewOne() {
        int[] rests = {1, 4, 5, 6};
        for (int rest : rests) {
            String scene = OPEN + "place 0 0 buy.LIMIT 30 3\nplace 2 0 sell.LIMIT 31 2\n";
            Rows.hold("an ICEBERG's rest of " + rest, scene + "place 1 0 sell.ICEBERG 30 " + (3 + rest) + " = 2"
                + "\ntrades = 1\nleft 2 = " + rest + "\ndepth 0 1 30 = " + Math.min(5, rest) + "\nbest 0 1 = 30");
        }
        Rows.hold("behind those that wait", OPEN + """
            place 0 0 buy.LIMIT 30 3
            place 2 0 sell.LIMIT 31 2
            place 1 0 sell.LIMIT 31 9 = 2
            ahead 2 = 2
            place 1 1 sell.LIMIT 31 9 = 3
            place 2 1 sell.ICEBERG 31 9 = 4
            ahead 4 = 9
            depth 1 1 31 = 14
            """);
        Rows.hold("nothing is left: it is filled", OPEN + """
            place 0 0 buy.LIMIT 30 3
            place 1 0 sell.ICEBERG 30 3 = 1
            state 1 = FILLED
            depth 0 1 30 = 0
            """);
    }

    /** "the buyer's position grows by n and it is owed n p less, the seller's the other way round"; "REFERENCE" */
    private static void aTradeChangesBoth() {
        Rows.hold("the least and the greatest price", OPEN + """
            place 0 0 buy.LIMIT 1 1
            place 1 0 sell.LIMIT 1 1
            position 0 0 = 1
            position 1 0 = -1
            owed 0 = -1
            owed 1 = 1
            place 0 1 sell.LIMIT 63 99
            place 1 1 buy.LIMIT 63 99
            position 0 1 = -99
            position 1 1 = 99
            owed 0 = 6236
            owed 1 = -6236
            """);
        Rows.hold("the reference: 32 at first, then the latest price", OPEN + """
            close 0
            place 0 0 buy.LIMIT 63 1
            place 1 0 sell.LIMIT 1 1
            indication 0 0 = 32
            cancel 0 0
            open 0 = 0
            place 2 0 buy.LIMIT 10 1
            state 1 = FILLED
            trade 0 2 = 1
            close 0
            place 0 0 buy.LIMIT 63 1
            place 1 0 sell.LIMIT 1 1
            indication 0 0 = 1
            """);
    }

    /** The refusals are asked in these scenes, so these must be what Refusals tells of them. */
    private static void theScenesAreAsTold() {
        Rows.hold("BUSY", Refusals.BUSY + """
            state 0 = FILLED
            state 1 = FILLED
            state 6 = FILLED
            state 7 = FILLED
            state 10 = WITHDRAWN
            left 2 = 17
            ahead 3 = 2
            left 4 = 7
            ahead 5 = 3
            left 8 = 5
            left 9 = 8
            state 11 = BAD
            money 4 = 0
            indication 1 0 = 45
            close 1 = PHASE
            open 0 = PHASE
            settle
            deposit 4 500
            place 4 0 buy.LIMIT 63 1
            place 4 0 sell.LIMIT 1 1
            indication 0 0 = 34
            """);
        Rows.hold("FILLED_UP", Refusals.FILLED_UP + """
            state 119 = RESTING
            state 120 = BAD
            trades = 120
            best 0 0 = 31
            best 0 1 = 40
            best 1 0 = 20
            best 1 1 = 29
            open 0 = PHASE
            open 1 = PHASE
            money 3 = 0
            money 4 = 0
            """);
    }

    /** "A call that is refused changes nothing", even many of them, of every kind, one after the other. */
    private static void aRefusedCallChangesNothing() {
        String refused = """
            deposit 0 -917
            place 0 0 buy.LIMIT 0 1
            place 3 1 buy.NOW 30 1
            place 4 0 buy.LIMIT 30 1
            place 2 0 buy.POST 34 1
            place 2 0 buy.ALL 34 8
            cancel 1 2
            amend 0 2 17
            amend 1 2 1
            open 0
            open 2
            close 1
            close -1
            indication 0 0
            best 0 2
            depth 0 0 64
            ahead 0
            left 11
            state 11
            trade 3 0
            trade 0 4
            """;
        for (String then : refused.split("\n")) {
            Refusals.changesNothing("many refusals", Refusals.BUSY + refused, then);
        }
        Rows.hold("many refusals", Refusals.BUSY + refused + refused + """
            money 0 = 1000
            left 2 = 17
            left 4 = 7
            depth 0 0 30 = 6
            depth 0 1 34 = 10
            indication 1 0 = 45
            trades = 3
            place 0 0 buy.LIMIT 30 1 = 11
            open 1 = 5
            close 0 = 0
            """);
    }
}
