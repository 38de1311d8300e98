/** Promise 20: settle. */
public final class SettleTest {
    public static void main(String[] args) {
        nothingToSettle();
        moneyAndPositions();
        ordersAndPhases();
        whoEvensOut();
        theNextDay();
        Check.end();
    }

    private static void nothingToSettle() {
        CallMarket market = new CallMarket();
        Check.due("a new object", market.settle(), 0);
        market.open(1);
        Check.due("without trades", market.settle(), 0);
        Check.due("in a CALL", market.close(1), CallMarket.PHASE);
    }

    private static void moneyAndPositions() {
        CallMarket market = Check.openMarket();
        market.place(0, 0, Check.buy(Check.LIMIT), 30, 7);
        market.place(1, 0, Check.sell(Check.LIMIT), 30, 3);
        market.place(2, 0, Check.sell(Check.LIMIT), 30, 3);
        Check.due("three members", market.settle(), 3);
        long[] money = {99820, 100090, 100090, 100000, 100000};
        int[] position = {6, -3, -3, 0, 0};
        for (int member = 0; member < 5; member++) {
            Check.due("money(" + member + ")", market.money(member), money[member]);
            Check.due("owed(" + member + ")", market.owed(member), 0);
            Check.due("position(" + member + ", 0)", market.position(member, 0), position[member]);
        }
        Check.due("risk without orders", market.risk(0), 18);
        Check.due("trades stay", market.trades(), 2);
        Check.dueTrade("trades stay", market, 1, new int[] {0, 2, 30, 3});
        Check.due("once more", market.settle(), 0);
        Check.due("money is not paid twice", market.money(0), 99820);
    }

    private static void ordersAndPhases() {
        CallMarket market = Check.openMarket();
        market.close(1);
        market.place(0, 0, Check.buy(Check.LIMIT), 30, 7);
        market.place(1, 0, Check.sell(Check.ICEBERG), 31, 9);
        market.place(2, 1, Check.buy(Check.ICEBERG), 30, 9);
        market.place(3, 1, Check.sell(Check.LIMIT), 20, 9);
        market.place(4, 0, Check.sell(Check.LIMIT), 30, 7);
        market.settle();
        int[] state = {Check.FILLED, Check.WITHDRAWN, Check.WITHDRAWN, Check.WITHDRAWN, Check.FILLED};
        int[] left = {0, 9, 9, 9, 0};
        for (int order = 0; order < 5; order++) {
            Check.due("state(" + order + ")", market.state(order), state[order]);
            Check.due("left(" + order + ")", market.left(order), left[order]);
            Check.due("ahead(" + order + ")", market.ahead(order), CallMarket.NOTHING);
        }
        for (int instrument = 0; instrument < 2; instrument++) {
            Check.due("best that buys", market.best(instrument, 0), CallMarket.NOTHING);
            Check.due("best that sells", market.best(instrument, 1), CallMarket.NOTHING);
            Check.due("indication", market.indication(instrument, 0), CallMarket.NOTHING);
            Check.due("in a CALL", market.close(instrument), CallMarket.PHASE);
        }
        Check.due("no risk of withdrawn orders", market.risk(2), 0);
        Check.due("cancel", market.cancel(2, 2), false);
    }

    private static void whoEvensOut() {
        CallMarket market = Check.openMarket();
        market.place(0, 0, Check.buy(Check.LIMIT), 30, 7);
        market.place(1, 0, Check.sell(Check.LIMIT), 30, 7);
        market.place(1, 0, Check.buy(Check.LIMIT), 30, 7);
        market.place(2, 0, Check.sell(Check.LIMIT), 30, 7);
        Check.due("owed to the one between", market.owed(1), 0);
        Check.due("two members", market.settle(), 2);
        Check.due("money(1)", market.money(1), 100000);
    }

    private static void theNextDay() {
        CallMarket market = Check.openMarket();
        market.place(0, 0, Check.buy(Check.LIMIT), 50, 7);
        market.place(1, 0, Check.sell(Check.LIMIT), 50, 7);
        market.settle();
        Check.due("numbers go on", market.place(0, 0, Check.buy(Check.LIMIT), 60, 7), 2);
        market.place(1, 0, Check.sell(Check.LIMIT), 10, 7);
        Check.due("the reference stays", market.indication(0, 0), 50);
        Check.due("open", market.open(0), 7);
        Check.due("trades go on", market.trades(), 2);
        Check.due("two members again", market.settle(), 2);
        Check.due("money(0)", market.money(0), 100000 - 700);
    }
}
