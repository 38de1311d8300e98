/** Promise 3: what place accepts, what it refuses, and which of several refusals it answers. */
public final class PlaceTest {
    public static void main(String[] args) {
        numbers();
        bad();
        anyLimitForMarket();
        full();
        phase();
        riskOfTheWholeOrder();
        riskCountsPositionAndOrders();
        post();
        all();
        theRefusalNamedFirst();
        refusedChangesNothing();
        Check.end();
    }

    private static void numbers() {
        CallMarket market = Check.richMarket();
        Check.due("the first", market.place(0, 0, Check.buy(Check.LIMIT), 1, 1), 0);
        Check.due("a refused one", market.place(0, 0, Check.buy(Check.LIMIT), 1, 0), CallMarket.BAD);
        Check.due("the second", market.place(4, 1, Check.sell(Check.LIMIT), 63, 99), 1);
        Check.due("the third", market.place(3, 1, Check.buy(Check.ICEBERG), 63, 99), 2);
        Check.due("side of the second", market.best(1, 1), 63);
        Check.due("left of the second", market.left(1), 99);
    }

    private static void bad() {
        CallMarket market = Check.openMarket();
        int[][] wrong = {
            {-1, 0, 0, 10, 1}, {5, 0, 0, 10, 1}, {Integer.MIN_VALUE, 0, 0, 10, 1},
            {0, -1, 0, 10, 1}, {0, 2, 0, 10, 1}, {0, Integer.MAX_VALUE, 0, 10, 1},
            {0, 0, -1, 10, 1}, {0, 0, 12, 10, 1}, {0, 0, Integer.MIN_VALUE, 10, 1}, {0, 0, Integer.MAX_VALUE, 10, 1},
            {0, 0, 0, 0, 1}, {0, 0, 0, 64, 1}, {0, 0, 0, -1, 1}, {0, 0, 1, 64, 1}, {0, 0, 2, 0, 1}, {0, 0, 4, 64, 1},
            {0, 0, 5, 0, 1}, {0, 0, 8, 64, 1}, {0, 0, 11, 0, 1},
            {0, 0, 0, 10, 0}, {0, 0, 0, 10, 100}, {0, 0, 0, 10, -1}, {0, 0, 6, 10, 100}, {0, 0, 7, 10, 0}};
        for (int[] w : wrong) {
            String call = "place(" + w[0] + ", " + w[1] + ", " + w[2] + ", " + w[3] + ", " + w[4] + ")";
            Check.due(call, market.place(w[0], w[1], w[2], w[3], w[4]), CallMarket.BAD);
        }
        Check.due("none was accepted", market.left(0), CallMarket.BAD);
    }

    private static void anyLimitForMarket() {
        CallMarket market = Check.openMarket();
        market.place(0, 0, Check.sell(Check.LIMIT), 63, 3);
        market.place(0, 0, Check.buy(Check.LIMIT), 1, 3);
        Check.due("buy with limit 0", market.place(1, 0, Check.buy(Check.MARKET), 0, 1), 2);
        Check.due("buy with the least limit", market.place(1, 0, Check.buy(Check.MARKET), Integer.MIN_VALUE, 1), 3);
        Check.due("sell with limit 64", market.place(1, 0, Check.sell(Check.MARKET), 64, 1), 4);
        Check.due("sell with the greatest limit",
            market.place(1, 0, Check.sell(Check.MARKET), Integer.MAX_VALUE, 1), 5);
        Check.due("buy with a limit that would not do", market.place(1, 0, Check.buy(Check.MARKET), 1, 1), 6);
        Check.due("sell with a limit that would not do", market.place(1, 0, Check.sell(Check.MARKET), 63, 1), 7);
        for (int order = 0; order < 8; order++) {
            Check.due("state(" + order + ")", market.state(order), Check.FILLED);
        }
    }

    private static void full() {
        CallMarket market = Check.richMarket();
        for (int order = 0; order < 120; order++) {
            Check.due("order " + order, market.place(0, 0, Check.buy(Check.LIMIT), 1 + order % 63, 1), order);
        }
        Check.due("one more", market.place(0, 0, Check.buy(Check.LIMIT), 1, 1), CallMarket.FULL);
        market.cancel(0, 5);
        Check.due("after a cancel", market.place(0, 0, Check.buy(Check.LIMIT), 1, 1), CallMarket.FULL);
        market.settle();
        Check.due("on another day", market.place(0, 0, Check.buy(Check.LIMIT), 1, 1), CallMarket.FULL);
        Check.due("state(119)", market.state(119), Check.WITHDRAWN);
        Check.due("state(120)", market.state(120), CallMarket.BAD);
    }

    private static void phase() {
        CallMarket market = Check.richMarket();
        market.open(1);
        int accepted = 0;
        for (int how = 0; how < 12; how++) {
            int kind = how / 2;
            boolean good = kind == Check.LIMIT || kind == Check.ICEBERG;
            int due = good ? accepted++ : CallMarket.PHASE;
            Check.due("in a CALL: how " + how, market.place(0, 0, how, 10, 1), due);
        }
        Check.due("the other instrument is OPEN", market.place(0, 1, Check.buy(Check.NOW), 10, 1), accepted++);
        market.open(0);
        Check.due("OPEN", market.place(1, 0, Check.buy(Check.POST), 5, 1), accepted++);
        market.close(0);
        Check.due("in a CALL again", market.place(0, 0, Check.buy(Check.POST), 5, 1), CallMarket.PHASE);
        Check.due("LIMIT in a CALL again", market.place(0, 0, Check.buy(Check.LIMIT), 5, 1), accepted);
    }

    private static void riskOfTheWholeOrder() {
        CallMarket market = new CallMarket();
        market.deposit(0, 29);
        market.deposit(1, 1000);
        market.open(0);
        market.open(1);
        market.place(1, 0, Check.sell(Check.LIMIT), 20, 50);
        market.place(1, 0, Check.buy(Check.LIMIT), 10, 50);
        for (int how = 0; how < 12; how++) {
            Check.due("10 of instrument 0: how " + how, market.place(0, 0, how, 15, 10), CallMarket.RISK);
            Check.due("6 of instrument 1: how " + how, market.place(0, 1, how, 15, 6), CallMarket.RISK);
        }
        market.deposit(0, 1);
        Check.due("just enough for 10", market.place(0, 0, Check.sell(Check.NOW), 15, 10), 2);
        Check.due("NOW was withdrawn", market.state(2), Check.WITHDRAWN);
        Check.due("just enough for 6", market.place(0, 1, Check.sell(Check.LIMIT), 15, 6), 3);
        Check.due("none for 1 more", market.place(0, 0, Check.buy(Check.LIMIT), 15, 1), CallMarket.RISK);
        Check.due("but for as much on the other side", market.place(0, 1, Check.buy(Check.LIMIT), 10, 6), 4);
        Check.due("and no more there", market.place(0, 1, Check.buy(Check.LIMIT), 10, 1), CallMarket.RISK);
    }

    private static void riskCountsPositionAndOrders() {
        CallMarket market = new CallMarket();
        market.deposit(0, 30);
        market.deposit(1, 1000);
        market.open(0);
        market.place(1, 0, Check.sell(Check.LIMIT), 20, 50);
        Check.due("to buy 10", market.place(0, 0, Check.buy(Check.LIMIT), 20, 10), 1);
        Check.due("to buy 1 more", market.place(0, 0, Check.buy(Check.LIMIT), 20, 1), CallMarket.RISK);
        Check.due("to sell 21", market.place(0, 0, Check.sell(Check.LIMIT), 30, 21), CallMarket.RISK);
        Check.due("to sell 20", market.place(0, 0, Check.sell(Check.LIMIT), 30, 20), 2);
        Check.due("to sell 1 more", market.place(0, 0, Check.sell(Check.LIMIT), 30, 1), CallMarket.RISK);
        Check.due("what it owes counts for nothing", market.owed(0), -200);
    }

    private static void post() {
        CallMarket market = Check.openMarket();
        market.place(0, 0, Check.sell(Check.LIMIT), 30, 5);
        market.place(0, 0, Check.buy(Check.LIMIT), 20, 5);
        Check.due("buy at the best", market.place(1, 0, Check.buy(Check.POST), 30, 1), CallMarket.REFUSED);
        Check.due("buy above the best", market.place(1, 0, Check.buy(Check.POST), 40, 1), CallMarket.REFUSED);
        Check.due("buy below the best", market.place(1, 0, Check.buy(Check.POST), 29, 1), 2);
        Check.due("it rests", market.state(2), Check.RESTING);
        Check.due("at the end of its queue", market.best(0, 0), 29);
        Check.due("sell at the best", market.place(1, 0, Check.sell(Check.POST), 29, 1), CallMarket.REFUSED);
        Check.due("sell below the best", market.place(1, 0, Check.sell(Check.POST), 1, 1), CallMarket.REFUSED);
        Check.due("its own order counts too", market.place(0, 0, Check.buy(Check.POST), 30, 1), CallMarket.REFUSED);
        Check.due("sell above the best", market.place(1, 0, Check.sell(Check.POST), 30, 2), 3);
        Check.due("behind the other", market.ahead(3), 5);
        Check.due("the other instrument counts for nothing", market.place(1, 1, Check.buy(Check.POST), 63, 2), 4);
        Check.due("the same side counts for nothing", market.place(1, 1, Check.buy(Check.POST), 63, 2), 5);
        Check.due("no trade of it", market.trades(), 0);
    }

    private static void all() {
        CallMarket market = Check.openMarket();
        market.place(0, 0, Check.sell(Check.LIMIT), 30, 5);
        market.place(1, 0, Check.sell(Check.ICEBERG), 31, 20);
        market.place(2, 0, Check.sell(Check.LIMIT), 32, 7);
        Check.due("more than all", market.place(3, 0, Check.buy(Check.ALL), 63, 33), CallMarket.REFUSED);
        Check.due("more than up to the limit", market.place(3, 0, Check.buy(Check.ALL), 31, 26), CallMarket.REFUSED);
        Check.due("its own does not count", market.place(1, 0, Check.buy(Check.ALL), 32, 13), CallMarket.REFUSED);
        Check.due("none below the best", market.place(3, 0, Check.buy(Check.ALL), 29, 1), CallMarket.REFUSED);
        Check.due("what is hidden counts", market.place(3, 0, Check.buy(Check.ALL), 31, 25), 3);
        Check.due("it is filled", market.state(3), Check.FILLED);
        Check.due("trades", market.trades(), 5);
        Check.due("nothing left below 32", market.best(0, 1), 32);
        market.place(2, 0, Check.buy(Check.LIMIT), 10, 3);
        market.place(3, 0, Check.buy(Check.LIMIT), 9, 3);
        market.place(4, 0, Check.buy(Check.LIMIT), 8, 3);
        Check.due("more to sell than there is", market.place(3, 0, Check.sell(Check.ALL), 8, 7), CallMarket.REFUSED);
        Check.due("just what the others buy", market.place(3, 0, Check.sell(Check.ALL), 8, 6), 7);
        Check.due("its own was in the way", market.state(5), Check.WITHDRAWN);
        Check.due("the last one is filled", market.state(6), Check.FILLED);
    }

    private static void theRefusalNamedFirst() {
        CallMarket market = new CallMarket();
        Check.due("BAD before PHASE", market.place(0, 0, Check.buy(Check.NOW), 0, 1), CallMarket.BAD);
        Check.due("PHASE before RISK", market.place(0, 0, Check.buy(Check.NOW), 1, 1), CallMarket.PHASE);
        Check.due("RISK alone", market.place(0, 0, Check.buy(Check.LIMIT), 1, 1), CallMarket.RISK);
        market.open(0);
        Check.due("RISK before REFUSED", market.place(0, 0, Check.buy(Check.ALL), 1, 1), CallMarket.RISK);
        market.deposit(0, 3);
        Check.due("REFUSED alone", market.place(0, 0, Check.buy(Check.ALL), 1, 1), CallMarket.REFUSED);
        market.close(0);
        for (int order = 0; order < 120; order++) {
            market.place(0, 0, Check.buy(Check.LIMIT), 1, 1);
            market.cancel(0, order);
        }
        Check.due("BAD before FULL", market.place(0, 0, 12, 1, 1), CallMarket.BAD);
        Check.due("FULL before PHASE", market.place(0, 0, Check.buy(Check.NOW), 1, 1), CallMarket.FULL);
        Check.due("FULL before RISK", market.place(1, 0, Check.buy(Check.LIMIT), 1, 1), CallMarket.FULL);
    }

    private static void refusedChangesNothing() {
        CallMarket market = Check.openMarket();
        market.place(0, 0, Check.sell(Check.LIMIT), 30, 5);
        market.place(1, 0, Check.sell(Check.LIMIT), 30, 5);
        market.place(0, 0, Check.buy(Check.ALL), 30, 6);
        market.place(0, 0, Check.buy(Check.POST), 30, 6);
        Check.due("its own order rests still", market.state(0), Check.RESTING);
        Check.due("left(1)", market.left(1), 5);
        Check.due("risk(0)", market.risk(0), 15);
        Check.due("trades()", market.trades(), 0);
        Check.due("best to buy", market.best(0, 0), CallMarket.NOTHING);
        Check.due("the next number", market.place(0, 0, Check.buy(Check.LIMIT), 1, 1), 2);
    }
}
