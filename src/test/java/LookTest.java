/** Promises 9 to 15: best, depth, ahead, left, state, trades and trade. */
public final class LookTest {
    private static final int[] NO_ORDER = {-1, 4, 120, Integer.MIN_VALUE, Integer.MAX_VALUE};

    public static void main(String[] args) {
        best();
        depth();
        ahead();
        leftAndState();
        trades();
        latestHundred();
        Check.end();
    }

    private static void best() {
        CallMarket market = Check.richMarket();
        Check.due("none that buys", market.best(0, 0), CallMarket.NOTHING);
        Check.due("none that sells", market.best(0, 1), CallMarket.NOTHING);
        market.place(0, 0, Check.buy(Check.LIMIT), 20, 1);
        market.place(0, 0, Check.buy(Check.LIMIT), 40, 1);
        market.place(0, 0, Check.buy(Check.LIMIT), 30, 1);
        Check.due("the greatest", market.best(0, 0), 40);
        Check.due("none that sells still", market.best(0, 1), CallMarket.NOTHING);
        market.place(0, 0, Check.sell(Check.LIMIT), 20, 1);
        market.place(0, 0, Check.sell(Check.LIMIT), 10, 1);
        market.place(0, 0, Check.sell(Check.LIMIT), 30, 1);
        Check.due("the least", market.best(0, 1), 10);
        Check.due("the other instrument", market.best(1, 0), CallMarket.NOTHING);
        market.cancel(0, 1);
        Check.due("the next", market.best(0, 0), 30);
        int[] wrong = {-1, 2, Integer.MIN_VALUE, Integer.MAX_VALUE};
        for (int number : wrong) {
            Check.due("best(" + number + ", 0)", market.best(number, 0), CallMarket.BAD);
            Check.due("best(0, " + number + ")", market.best(0, number), CallMarket.BAD);
            Check.due("best(1, " + number + ")", market.best(1, number), CallMarket.BAD);
        }
    }

    private static void depth() {
        CallMarket market = Check.richMarket();
        market.place(0, 1, Check.buy(Check.LIMIT), 63, 20);
        market.place(1, 1, Check.buy(Check.ICEBERG), 63, 20);
        market.place(1, 1, Check.buy(Check.LIMIT), 62, 3);
        market.place(1, 1, Check.sell(Check.LIMIT), 1, 4);
        Check.due("depth(1, 0, 63)", market.depth(1, 0, 63), 25);
        Check.due("depth(1, 0, 62)", market.depth(1, 0, 62), 3);
        Check.due("depth(1, 0, 61)", market.depth(1, 0, 61), 0);
        Check.due("depth(1, 0, 1)", market.depth(1, 0, 1), 0);
        Check.due("depth(1, 1, 1)", market.depth(1, 1, 1), 4);
        Check.due("depth(1, 1, 63)", market.depth(1, 1, 63), 0);
        Check.due("depth(0, 0, 63)", market.depth(0, 0, 63), 0);
        int[][] wrong = {{-1, 0, 63}, {2, 0, 63}, {1, -1, 63}, {1, 2, 63}, {1, 0, 0}, {1, 0, 64}, {1, 0, -1},
            {Integer.MAX_VALUE, 0, 1}, {0, Integer.MIN_VALUE, 1}, {0, 0, Integer.MAX_VALUE}, {0, 0, Integer.MIN_VALUE}};
        for (int[] w : wrong) {
            String call = "depth(" + w[0] + ", " + w[1] + ", " + w[2] + ")";
            Check.due(call, market.depth(w[0], w[1], w[2]), CallMarket.BAD);
        }
    }

    private static void ahead() {
        CallMarket market = Check.richMarket();
        market.place(0, 0, Check.buy(Check.LIMIT), 30, 7);
        market.place(1, 0, Check.buy(Check.ICEBERG), 30, 9);
        market.place(2, 0, Check.buy(Check.LIMIT), 31, 50);
        market.place(3, 0, Check.buy(Check.LIMIT), 30, 2);
        Check.due("ahead(0)", market.ahead(0), 0);
        Check.due("ahead(1)", market.ahead(1), 7);
        Check.due("ahead(2)", market.ahead(2), 0);
        Check.due("ahead(3)", market.ahead(3), 12);
        for (int order : NO_ORDER) {
            Check.due("ahead(" + order + ")", market.ahead(order), CallMarket.NOTHING);
        }
        market.cancel(0, 0);
        Check.due("ahead of a withdrawn one", market.ahead(0), CallMarket.NOTHING);
        Check.due("ahead(3) after that", market.ahead(3), 5);
        market.open(0);
        market.place(4, 0, Check.sell(Check.LIMIT), 31, 50);
        Check.due("ahead of a filled one", market.ahead(2), CallMarket.NOTHING);
        Check.due("ahead of one filled at once", market.ahead(4), CallMarket.NOTHING);
    }

    private static void leftAndState() {
        CallMarket market = Check.openMarket();
        market.place(0, 0, Check.buy(Check.LIMIT), 30, 7);
        market.place(1, 0, Check.sell(Check.LIMIT), 30, 3);
        market.place(1, 0, Check.sell(Check.NOW), 31, 99);
        market.place(1, 0, Check.sell(Check.ICEBERG), 31, 99);
        int[] left = {4, 0, 99, 99};
        int[] state = {Check.RESTING, Check.FILLED, Check.WITHDRAWN, Check.RESTING};
        for (int order = 0; order < 4; order++) {
            Check.due("left(" + order + ")", market.left(order), left[order]);
            Check.due("state(" + order + ")", market.state(order), state[order]);
        }
        for (int order : NO_ORDER) {
            Check.due("left(" + order + ")", market.left(order), CallMarket.BAD);
            Check.due("state(" + order + ")", market.state(order), CallMarket.BAD);
        }
    }

    private static void trades() {
        CallMarket market = Check.openMarket();
        Check.due("trades()", market.trades(), 0);
        Check.due("trade(0, 0)", market.trade(0, 0), CallMarket.NOTHING);
        Check.due("BAD is looked at first", market.trade(0, 4), CallMarket.BAD);
        market.place(0, 0, Check.buy(Check.LIMIT), 30, 7);
        market.place(1, 0, Check.sell(Check.LIMIT), 29, 3);
        market.place(1, 1, Check.sell(Check.LIMIT), 40, 3);
        market.place(0, 1, Check.buy(Check.LIMIT), 41, 2);
        Check.due("trades of both instruments", market.trades(), 2);
        Check.dueTrade("the first", market, 0, new int[] {0, 1, 30, 3});
        Check.dueTrade("the second", market, 1, new int[] {3, 2, 40, 2});
        int[] noTrade = {-1, 2, 100, Integer.MIN_VALUE, Integer.MAX_VALUE};
        for (int k : noTrade) {
            Check.due("trade(" + k + ", 0)", market.trade(k, 0), CallMarket.NOTHING);
        }
        int[] noPart = {-1, 4, Integer.MIN_VALUE, Integer.MAX_VALUE};
        for (int part : noPart) {
            Check.due("trade(0, " + part + ")", market.trade(0, part), CallMarket.BAD);
            Check.due("trade(9, " + part + ")", market.trade(9, part), CallMarket.BAD);
        }
    }

    private static void latestHundred() {
        CallMarket market = Check.openMarket();
        // An order for 99 meets ICEBERGs in 20 trades: 19 of 5 and one of 4.
        for (int round = 0; round < 5; round++) {
            market.place(0, 0, Check.buy(Check.ICEBERG), 20 + round, 99);
            market.place(1, 0, Check.sell(Check.LIMIT), 20 + round, 99);
        }
        Check.due("trades()", market.trades(), 100);
        Check.dueTrade("of 100", market, 0, new int[] {0, 1, 20, 5});
        Check.dueTrade("of 100", market, 99, new int[] {8, 9, 24, 4});
        market.place(2, 0, Check.buy(Check.LIMIT), 63, 7);
        market.place(3, 0, Check.sell(Check.LIMIT), 63, 7);
        Check.due("trades()", market.trades(), 101);
        Check.due("trade(0, 0) is not among them", market.trade(0, 0), CallMarket.NOTHING);
        Check.due("BAD before that", market.trade(0, 4), CallMarket.BAD);
        Check.dueTrade("of 101", market, 1, new int[] {0, 1, 20, 5});
        Check.dueTrade("of 101", market, 100, new int[] {10, 11, 63, 7});
        Check.due("trade(101, 0)", market.trade(101, 0), CallMarket.NOTHING);
        for (int round = 0; round < 7; round++) {
            market.place(0, 1, Check.sell(Check.ICEBERG), 20 + round, 99);
            market.place(1, 1, Check.buy(Check.LIMIT), 20 + round, 99);
        }
        Check.due("trades()", market.trades(), 241);
        Check.due("trade(140, 3)", market.trade(140, 3), CallMarket.NOTHING);
        Check.dueTrade("of 241", market, 141, new int[] {17, 16, 22, 5});
        Check.dueTrade("of 241", market, 240, new int[] {25, 24, 26, 4});
    }
}
