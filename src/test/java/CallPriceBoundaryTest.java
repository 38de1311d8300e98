/** "THE CALL PRICE" and "TO OPEN" at their boundaries: each method holds one sentence of the terms, or a part of it. */
public final class CallPriceBoundaryTest {
    private static final String RICH = """
        deposit 0 100000
        deposit 1 100000
        deposit 2 100000
        """;

    public static void main(String[] args) {
        limitsOfQCount();
        hiddenPartsCount();
        greatestVolume();
        leastDifference();
        moreBoughtAtAll();
        moreSoldAtAll();
        nearestToTheReference();
        noCallPrice();
        onlyGoodLimitsTrade();
        inTheOrderOfLimitsAndQueues();
        untilNoneIsLeftOnOneSide();
        ordersOfOneMember();
        icebergThatTraded();
        icebergThatDidNotTrade();
        openWithoutACallPrice();
        Check.end();
    }

    private static String buy(int limit, int quantity) {
        return "place 0 0 buy.LIMIT " + limit + " " + quantity + "\n";
    }

    private static String sell(int limit, int quantity) {
        return "place 1 0 sell.LIMIT " + limit + " " + quantity + "\n";
    }

    private static void price(String title, String orders, int price, int volume, int surplus) {
        Rows.hold(title, RICH + orders + "indication 0 0 = " + price + "\nindication 0 1 = " + volume
            + "\nindication 0 2 = " + surplus + "\nopen 0 = " + volume + "\ntrade 0 2 = " + price);
    }

    /** "B .. with a limit of q or more, S .. with a limit of q or less" */
    private static void limitsOfQCount() {
        price("both have a limit of q", buy(30, 2) + sell(30, 2), 30, 2, 0);
        price("q is the least price", buy(1, 2) + sell(1, 2), 1, 2, 0);
        price("q is the greatest price", buy(63, 2) + sell(63, 2), 63, 2, 0);
        price("one price less to buy, one more to sell, count for nothing",
            buy(30, 2) + buy(29, 9) + sell(30, 2) + sell(31, 9), 30, 2, 0);
        price("one price more to buy, one less to sell, count",
            buy(30, 2) + buy(31, 9) + sell(30, 2) + sell(29, 9), 30, 11, 0);
    }

    /** "(all that is left counts, of ICEBERGs too)" */
    private static void hiddenPartsCount() {
        price("of ICEBERGs too", "place 0 0 buy.ICEBERG 50 20\nplace 1 0 sell.ICEBERG 40 19\n", 50, 19, 1);
        price("what is left after amend", "place 0 0 buy.ICEBERG 50 20\nplace 1 0 sell.LIMIT 40 19\namend 0 0 18\n",
            40, 18, -1);
        Rows.hold("only of instrument 0", Refusals.BUSY + "indication 0 0 = NOTHING\nindication 1 1 = 5");
    }

    /** "Of the prices with the greatest V" */
    private static void greatestVolume() {
        // V is one number from 20 to 29 and another one, or the same, from 30 to 40.
        price("one more at the lower prices", buy(29, 6) + buy(40, 4) + sell(20, 5) + sell(30, 9), 29, 5, 5);
        price("as much at both", buy(29, 6) + buy(40, 5) + sell(20, 5) + sell(30, 2), 30, 5, -2);
        price("one more at the upper prices", buy(29, 1) + buy(40, 6) + sell(20, 5) + sell(30, 9), 30, 6, -8);
    }

    /** "those with the least difference of B and S are kept" */
    private static void leastDifference() {
        // V is 10 from 21 to 23; B less S is 3 at 21, and minus the last quantity at 22 and 23.
        String orders = buy(23, 10) + buy(21, 3) + sell(21, 10);
        price("4 more sold is more than 3 more bought", orders + sell(22, 4), 21, 10, 3);
        price("3 more sold is as much: all are kept", orders + sell(22, 3), 23, 10, -3);
        price("2 more sold is less", orders + sell(22, 2), 22, 10, -2);
    }

    /** "If B is greater than S at all of these, the greatest of them is the call price" */
    private static void moreBoughtAtAll() {
        price("one more bought", buy(50, 5) + sell(40, 4), 50, 4, 1);
        price("none more bought", buy(50, 4) + sell(40, 4), 40, 4, 0);
        price("the greatest of all prices", buy(63, 5) + sell(1, 4), 63, 4, 1);
    }

    /** "if S is greater than B at all, the least" */
    private static void moreSoldAtAll() {
        price("one more sold", buy(20, 4) + sell(10, 5), 10, 4, -1);
        price("none more sold", buy(20, 4) + sell(10, 4), 20, 4, 0);
        price("the least of all prices", buy(63, 4) + sell(1, 5), 1, 4, -1);
    }

    /**
     * "otherwise the one nearest to the reference". Two prices as near can't be: the kept ones lie side by side, since
     * B falls and S grows with the price.
     */
    private static void nearestToTheReference() {
        price("the reference is the least", buy(40, 4) + sell(32, 4), 32, 4, 0);
        price("the reference is one below the least", buy(40, 4) + sell(33, 4), 33, 4, 0);
        price("the reference is the greatest", buy(32, 4) + sell(20, 4), 32, 4, 0);
        price("the reference is one above the greatest", buy(31, 4) + sell(20, 4), 31, 4, 0);
        price("the reference is between", buy(33, 4) + sell(31, 4), 32, 4, 0);
        price("all prices", buy(63, 4) + sell(1, 4), 32, 4, 0);
        // B less S is 2 up to 31 or 32 and -2 from there on.
        price("both signs, the reference the last with more bought",
            buy(40, 5) + buy(32, 2) + sell(10, 5) + sell(33, 2), 32, 5, 2);
        price("both signs, the reference the first with more sold",
            buy(40, 5) + buy(31, 2) + sell(10, 5) + sell(32, 2), 32, 5, -2);
        String references = RICH + """
            open 0
            place 0 0 buy.LIMIT 1 1
            place 1 0 sell.LIMIT 1 1
            close 0
            """;
        Rows.hold("the least reference", references + buy(63, 4) + sell(1, 4) + "indication 0 0 = 1");
        Rows.hold("the greatest reference", references.replace("LIMIT 1 1", "LIMIT 63 1") + buy(63, 4) + sell(1, 4)
            + "indication 0 0 = 63");
    }

    /** "When the greatest V is 0, there is no call price." */
    private static void noCallPrice() {
        String none = "indication 0 0 = NOTHING\nopen 0 = 0\ntrades = 0\nclose 0 = 0\n";
        Rows.hold("no orders", RICH + none);
        Rows.hold("only buys", RICH + buy(63, 99) + none);
        Rows.hold("only sells", RICH + sell(1, 99) + none);
        Rows.hold("one price apart", RICH + buy(30, 9) + sell(31, 9) + none);
        Rows.hold("apart at the least prices", RICH + buy(1, 9) + sell(2, 9) + none);
        Rows.hold("apart at the greatest prices", RICH + buy(62, 9) + sell(63, 9) + none);
        price("V of 1", buy(30, 1) + sell(30, 99), 30, 1, -98);
    }

    /** "that buy with a limit of q or more .. trade with those that sell with a limit of q or less, .. all at q" */
    private static void onlyGoodLimitsTrade() {
        Rows.hold("a limit of q trades, the next does not",
            RICH + buy(30, 5) + buy(29, 5) + sell(30, 5) + sell(31, 5) + """
            open 0 = 5
            trades = 1
            trade 0 0 = 0
            trade 0 1 = 2
            trade 0 2 = 30
            state 0 = FILLED
            state 1 = RESTING
            left 1 = 5
            state 2 = FILLED
            state 3 = RESTING
            left 3 = 5
            best 0 0 = 29
            best 0 1 = 31
            """);
        Rows.hold("all at q, whatever the limits", RICH + buy(63, 5) + sell(1, 5) + """
            open 0 = 5
            trade 0 2 = 32
            owed 0 = -160
            owed 1 = 160
            """);
    }

    /** "in the order of their limits, the greatest first, and within a queue in its order, .. the least first" */
    private static void inTheOrderOfLimitsAndQueues() {
        Rows.hold("limits before time, time within a queue",
            RICH + buy(30, 1) + buy(31, 1) + buy(31, 1) + buy(63, 1)
            + sell(30, 1) + sell(29, 1) + sell(29, 1) + sell(1, 1) + """
            open 0 = 4
            trade 0 0 = 3
            trade 0 1 = 7
            trade 1 0 = 1
            trade 1 1 = 5
            trade 2 0 = 2
            trade 2 1 = 6
            trade 3 0 = 0
            trade 3 1 = 4
            """);
    }

    /** "the first that buys and the first that sells trade the lesser of what they have left, .. until none is left" */
    private static void untilNoneIsLeftOnOneSide() {
        int[] sold = {9, 10, 11};
        for (int quantity : sold) {
            int traded = Math.min(10, quantity);
            Rows.hold("10 bought, " + quantity + " sold", RICH + buy(30, 4) + buy(30, 6) + sell(30, quantity)
                + "open 0 = " + traded + "\ntrades = 2\ntrade 0 3 = 4\ntrade 1 3 = " + (traded - 4)
                + "\nleft 1 = " + (10 - traded) + "\nstate 1 = " + (traded == 10 ? "FILLED" : "RESTING")
                + "\nleft 2 = " + (quantity - traded) + "\nstate 2 = " + (quantity == traded ? "FILLED" : "RESTING"));
        }
        Rows.hold("just filled: no trade of 0 with the next", RICH + buy(30, 4) + buy(30, 6) + sell(30, 4) + """
            open 0 = 4
            trades = 1
            left 1 = 6
            best 0 1 = NOTHING
            """);
    }

    /** "(orders of one member trade with one another, too)" */
    private static void ordersOfOneMember() {
        Rows.hold("with oneself", RICH + """
            place 2 0 buy.LIMIT 30 5
            place 2 0 sell.LIMIT 30 6
            open 0 = 5
            trades = 1
            state 0 = FILLED
            state 1 = RESTING
            left 1 = 1
            position 2 0 = 0
            owed 2 = 0
            risk 2 = 3
            """);
    }

    /** "An ICEBERG that traded and of which something is left keeps its place and shows 5, or what is left .." */
    private static void icebergThatTraded() {
        int[] traded = {1, 4, 5, 14, 15, 16, 19};
        for (int quantity : traded) {
            int shows = Math.min(5, 20 - quantity);
            Rows.hold(quantity + " of 20", RICH + "place 0 0 buy.ICEBERG 30 20\nplace 2 0 buy.LIMIT 30 3\n"
                + sell(30, quantity) + "open 0 = " + quantity + "\ntrades = 1\nleft 0 = " + (20 - quantity)
                + "\nahead 0 = 0\nahead 1 = " + shows + "\ndepth 0 0 30 = " + (3 + shows));
        }
        Rows.hold("20 of 20", RICH + "place 0 0 buy.ICEBERG 30 20\nplace 2 0 buy.LIMIT 30 3\n" + sell(30, 20) + """
            open 0 = 20
            state 0 = FILLED
            ahead 1 = 0
            depth 0 0 30 = 3
            """);
        Rows.hold("one that sells", RICH + """
            place 1 0 sell.ICEBERG 30 20
            place 2 0 sell.LIMIT 30 3
            place 0 0 buy.LIMIT 30 16
            open 0 = 16
            ahead 1 = 4
            """);
        Rows.hold("one that showed 2 shows 5 then", Refusals.BUSY + """
            close 0 = 0
            place 2 0 sell.LIMIT 30 1 = 11
            open 0 = 1
            left 2 = 16
            ahead 2 = 0
            ahead 3 = 5
            """);
    }

    /** "one that did not trade shows what it showed" */
    private static void icebergThatDidNotTrade() {
        // ICEBERG 2 shows 2 at 30, ICEBERG 4 shows 3 at 34.
        Rows.hold("no call price", Refusals.BUSY + """
            close 0 = 0
            open 0 = 0
            ahead 3 = 2
            ahead 5 = 3
            """);
        Rows.hold("others trade", Refusals.BUSY + """
            close 0 = 0
            place 0 0 buy.LIMIT 32 1 = 11
            place 1 0 sell.LIMIT 32 1 = 12
            open 0 = 1
            ahead 3 = 2
            ahead 5 = 3
            """);
        // The call price is 30, good for ICEBERG 2 too, but all that is sold there goes to the one at 31.
        Rows.hold("its limit is good, but none was left for it", Refusals.BUSY + """
            close 0 = 0
            place 0 0 buy.LIMIT 31 4 = 11
            place 3 0 sell.LIMIT 30 4 = 12
            place 3 0 sell.LIMIT 31 30 = 13
            indication 0 0 = 30
            open 0 = 4
            trade 3 0 = 11
            ahead 3 = 2
            left 2 = 17
            """);
    }

    /** "After that the instrument is OPEN (without a call price, too)." */
    private static void openWithoutACallPrice() {
        Rows.hold("with a call price", RICH + buy(30, 1) + sell(30, 1) + "open 0 = 1\nopen 0 = PHASE\nclose 0 = 0");
        Rows.hold("without one", RICH + buy(30, 1) + sell(31, 1) + "open 0 = 0\nopen 0 = PHASE\nclose 0 = 0");
        Rows.hold("one instrument alone", "open 0 = 0\nclose 1 = PHASE\nopen 1 = 0\nclose 0 = 0\nopen 1 = PHASE");
    }
}
