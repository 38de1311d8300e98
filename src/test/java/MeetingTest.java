/** Promise 3 while an instrument is OPEN: whom a new order meets, at what price, and what becomes of the rest. */
public final class MeetingTest {
    public static void main(String[] args) {
        bestPriceThenTime();
        sellingMeetsTheGreatest();
        ownOrdersAreWithdrawn();
        restOfEachKind();
        marketTakesEveryPrice();
        icebergGoesBehind();
        icebergAlone();
        newIcebergMeetsWithAll();
        noMeetingInACall();
        referenceOfATrade();
        manyInOneMeeting();
        Check.end();
    }

    private static void bestPriceThenTime() {
        CallMarket market = Check.openMarket();
        market.place(0, 0, Check.sell(Check.LIMIT), 31, 4);
        market.place(1, 0, Check.sell(Check.LIMIT), 30, 4);
        market.place(2, 0, Check.sell(Check.LIMIT), 30, 4);
        market.place(3, 0, Check.sell(Check.LIMIT), 33, 4);
        Check.due("a buyer up to 32", market.place(4, 0, Check.buy(Check.LIMIT), 32, 20), 4);
        Check.due("trades", market.trades(), 3);
        Check.dueTrade("the first at 30", market, 0, new int[] {4, 1, 30, 4});
        Check.dueTrade("the second at 30", market, 1, new int[] {4, 2, 30, 4});
        Check.dueTrade("then 31", market, 2, new int[] {4, 0, 31, 4});
        Check.due("its rest", market.left(4), 8);
        Check.due("rests", market.state(4), Check.RESTING);
        Check.due("at its limit", market.depth(0, 0, 32), 8);
        Check.due("33 was too dear", market.left(3), 4);
        Check.due("the one met is filled", market.state(1), Check.FILLED);
        Check.due("nothing is left of it", market.left(1), 0);
        Check.due("the queue is empty", market.depth(0, 1, 30), 0);
    }

    private static void sellingMeetsTheGreatest() {
        CallMarket market = Check.openMarket();
        market.place(0, 1, Check.buy(Check.LIMIT), 20, 4);
        market.place(1, 1, Check.buy(Check.LIMIT), 22, 4);
        market.place(2, 1, Check.buy(Check.LIMIT), 21, 4);
        Check.due("a seller down to 21", market.place(3, 1, Check.sell(Check.LIMIT), 21, 6), 3);
        Check.dueTrade("the greatest", market, 0, new int[] {1, 3, 22, 4});
        Check.dueTrade("then the next", market, 1, new int[] {2, 3, 21, 2});
        Check.due("trades", market.trades(), 2);
        Check.due("the new one is filled", market.state(3), Check.FILLED);
        Check.due("the partly filled one rests", market.state(2), Check.RESTING);
        Check.due("with what is left", market.left(2), 2);
        Check.due("and shows that", market.depth(1, 0, 21), 2);
        Check.due("best", market.best(1, 0), 21);
    }

    private static void ownOrdersAreWithdrawn() {
        CallMarket market = Check.openMarket();
        market.place(0, 0, Check.sell(Check.LIMIT), 30, 4);
        market.place(1, 0, Check.sell(Check.LIMIT), 30, 4);
        market.place(0, 0, Check.sell(Check.ICEBERG), 30, 44);
        market.place(0, 0, Check.sell(Check.LIMIT), 31, 4);
        market.place(0, 0, Check.buy(Check.NOW), 30, 4);
        Check.due("its own first", market.state(0), Check.WITHDRAWN);
        Check.due("what was left stays", market.left(0), 4);
        Check.due("another's is filled", market.state(1), Check.FILLED);
        Check.due("its own behind it rests", market.state(2), Check.RESTING);
        market.place(0, 0, Check.buy(Check.LIMIT), 30, 5);
        Check.due("the ICEBERG is withdrawn whole", market.state(2), Check.WITHDRAWN);
        Check.due("what was left of it stays", market.left(2), 44);
        Check.due("one whose limit is not good rests", market.state(3), Check.RESTING);
        Check.due("the new one rests", market.left(5), 5);
        Check.due("no trade with oneself", market.trades(), 1);
        Check.due("no position of it", market.position(0, 0), 4);
    }

    private static void restOfEachKind() {
        for (int kind = 0; kind < 6; kind++) {
            if (kind == Check.ALL || kind == Check.POST) {
                continue;
            }
            CallMarket market = Check.openMarket();
            market.place(0, 0, Check.buy(Check.LIMIT), 30, 4);
            market.place(1, 0, Check.sell(kind), 30, 10);
            boolean rests = kind == Check.LIMIT || kind == Check.ICEBERG;
            Check.due("kind " + kind + ": left", market.left(1), 6);
            Check.due("kind " + kind + ": state", market.state(1), rests ? Check.RESTING : Check.WITHDRAWN);
            Check.due("kind " + kind + ": best", market.best(0, 1), rests ? 30 : CallMarket.NOTHING);
            int shows = kind == Check.ICEBERG ? 5 : 6;
            Check.due("kind " + kind + ": depth", market.depth(0, 1, 30), rests ? shows : 0);
            Check.due("kind " + kind + ": traded", market.position(0, 0), 4);
            market.place(0, 0, Check.buy(Check.LIMIT), 29, 4);
            market.place(2, 0, Check.sell(kind), 29, 4);
            Check.due("kind " + kind + ": filled", market.state(3), Check.FILLED);
            market.place(3, 1, Check.sell(kind), 29, 4);
            Check.due("kind " + kind + ": meets none", market.state(4), rests ? Check.RESTING : Check.WITHDRAWN);
            Check.due("kind " + kind + ": all is left", market.left(4), 4);
        }
    }

    private static void marketTakesEveryPrice() {
        CallMarket market = Check.openMarket();
        market.place(0, 0, Check.sell(Check.LIMIT), 63, 2);
        market.place(0, 0, Check.sell(Check.LIMIT), 40, 2);
        market.place(1, 0, Check.buy(Check.MARKET), 1, 5);
        Check.dueTrade("the best first", market, 0, new int[] {2, 1, 40, 2});
        Check.dueTrade("then the dearest", market, 1, new int[] {2, 0, 63, 2});
        Check.due("the rest is withdrawn", market.state(2), Check.WITHDRAWN);
        Check.due("left", market.left(2), 1);
        Check.due("owed", market.owed(1), -206);
    }

    private static void icebergGoesBehind() {
        CallMarket market = Check.openMarket();
        market.place(0, 0, Check.sell(Check.ICEBERG), 30, 12);
        market.place(1, 0, Check.sell(Check.LIMIT), 30, 3);
        market.place(2, 0, Check.sell(Check.ICEBERG), 30, 8);
        Check.due("shown together", market.depth(0, 1, 30), 13);
        market.place(4, 0, Check.buy(Check.LIMIT), 30, 4);
        Check.due("a part of what it shows", market.depth(0, 1, 30), 9);
        Check.due("it keeps its place", market.ahead(0), 0);
        Check.due("the next waits behind 1", market.ahead(1), 1);
        market.place(4, 0, Check.buy(Check.LIMIT), 30, 1);
        Check.due("it shows 5 again", market.depth(0, 1, 30), 13);
        Check.due("at the end", market.ahead(0), 8);
        Check.due("the next is first now", market.ahead(1), 0);
        market.place(4, 0, Check.buy(Check.LIMIT), 30, 14);
        Check.dueTrade("the LIMIT", market, 2, new int[] {5, 1, 30, 3});
        Check.dueTrade("the second ICEBERG", market, 3, new int[] {5, 2, 30, 5});
        Check.dueTrade("the first ICEBERG", market, 4, new int[] {5, 0, 30, 5});
        Check.dueTrade("the second again", market, 5, new int[] {5, 2, 30, 1});
        Check.due("trades", market.trades(), 6);
        Check.due("the second keeps its place", market.ahead(2), 0);
        Check.due("the first is behind it", market.ahead(0), 2);
        Check.due("what is left of the first is less than 5", market.left(0), 2);
        Check.due("and all shown", market.depth(0, 1, 30), 4);
        market.place(4, 0, Check.buy(Check.LIMIT), 30, 4);
        Check.due("the first is filled", market.state(0), Check.FILLED);
        Check.due("the second is filled", market.state(2), Check.FILLED);
    }

    private static void icebergAlone() {
        CallMarket market = Check.openMarket();
        market.place(0, 0, Check.buy(Check.ICEBERG), 30, 17);
        market.place(1, 0, Check.sell(Check.ALL), 30, 16);
        Check.due("5, 5, 5 and 1", market.trades(), 4);
        Check.due("left", market.left(0), 1);
        Check.due("shown", market.depth(0, 0, 30), 1);
        Check.dueTrade("the last", market, 3, new int[] {0, 1, 30, 1});
    }

    private static void newIcebergMeetsWithAll() {
        CallMarket market = Check.openMarket();
        market.place(0, 0, Check.sell(Check.LIMIT), 30, 20);
        market.place(1, 0, Check.buy(Check.ICEBERG), 31, 28);
        Check.due("in one trade", market.trades(), 1);
        Check.dueTrade("all that it has", market, 0, new int[] {1, 0, 30, 20});
        Check.due("its rest", market.left(1), 8);
        Check.due("shows 5", market.depth(0, 0, 31), 5);
        market.place(1, 1, Check.buy(Check.ICEBERG), 31, 3);
        Check.due("one of less than 5 shows all", market.depth(1, 0, 31), 3);
    }

    private static void noMeetingInACall() {
        CallMarket market = Check.richMarket();
        market.place(0, 0, Check.sell(Check.LIMIT), 30, 20);
        market.place(1, 0, Check.buy(Check.LIMIT), 31, 5);
        market.place(0, 0, Check.buy(Check.ICEBERG), 33, 9);
        Check.due("no trade", market.trades(), 0);
        Check.due("no order is withdrawn", market.state(0), Check.RESTING);
        Check.due("ICEBERG shows 5", market.depth(0, 0, 33), 5);
        market.open(1);
        Check.due("opening the other instrument changes nothing", market.trades(), 0);
    }

    private static void referenceOfATrade() {
        CallMarket market = Check.openMarket();
        market.place(0, 0, Check.sell(Check.LIMIT), 50, 1);
        market.place(1, 0, Check.buy(Check.LIMIT), 60, 1);
        market.close(0);
        market.place(0, 0, Check.sell(Check.LIMIT), 10, 1);
        market.place(1, 0, Check.buy(Check.LIMIT), 63, 1);
        Check.due("nearest to the limit of the resting one", market.indication(0, 0), 50);
        market.close(1);
        market.place(0, 1, Check.sell(Check.LIMIT), 10, 1);
        market.place(1, 1, Check.buy(Check.LIMIT), 63, 1);
        Check.due("the other instrument has its own", market.indication(1, 0), 32);
    }

    private static void manyInOneMeeting() {
        CallMarket market = Check.openMarket();
        for (int order = 0; order < 119; order++) {
            market.place(order % 2, 0, Check.sell(Check.LIMIT), 1 + order % 40, 1);
        }
        Check.due("the last order there can be", market.place(1, 0, Check.buy(Check.MARKET), 0, 99), 119);
        Check.due("trades with each of the other's", market.trades(), 60);
        Check.due("its rest", market.left(119), 39);
        Check.due("its own are withdrawn", market.state(117), Check.WITHDRAWN);
        Check.due("the other's are filled", market.state(118), Check.FILLED);
        Check.due("none rests", market.best(0, 1), CallMarket.NOTHING);
        Check.due("no risk of its own orders", market.risk(1), 180);
    }
}
