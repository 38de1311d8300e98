/** Promises 6 to 8: open, close and indication, and the call price that they use. */
public final class CallTest {
    public static void main(String[] args) {
        openAndClose();
        greatestVolume();
        leastDifference();
        moreBoughtEverywhere();
        moreSoldEverywhere();
        nearestToTheReference();
        differencesOfBothSigns();
        hiddenPartsCount();
        indicationWhileOpen();
        indicationRefusals();
        tradesOfACall();
        icebergsInACall();
        membersTradeWithThemselves();
        bothInstrumentsApart();
        manyInOneCall();
        Check.end();
    }

    private static void indicated(String what, CallMarket market, int price, int volume, int surplus) {
        Check.due(what + ": call price", market.indication(0, 0), price);
        Check.due(what + ": V", market.indication(0, 1), volume);
        Check.due(what + ": B less S", market.indication(0, 2), surplus);
    }

    private static void buy(CallMarket market, int limit, int quantity) {
        market.place(0, 0, Check.buy(Check.LIMIT), limit, quantity);
    }

    private static void sell(CallMarket market, int limit, int quantity) {
        market.place(1, 0, Check.sell(Check.LIMIT), limit, quantity);
    }

    private static void openAndClose() {
        CallMarket market = Check.richMarket();
        int[] wrong = {-1, 2, Integer.MIN_VALUE, Integer.MAX_VALUE};
        for (int instrument : wrong) {
            Check.due("open(" + instrument + ")", market.open(instrument), CallMarket.BAD);
            Check.due("close(" + instrument + ")", market.close(instrument), CallMarket.BAD);
        }
        Check.due("close in a CALL", market.close(0), CallMarket.PHASE);
        Check.due("open", market.open(0), 0);
        Check.due("open while OPEN", market.open(0), CallMarket.PHASE);
        Check.due("the other is in a CALL", market.close(1), CallMarket.PHASE);
        buy(market, 10, 3);
        Check.due("close", market.close(0), 0);
        Check.due("close again", market.close(0), CallMarket.PHASE);
        Check.due("orders rest on", market.state(0), Check.RESTING);
        sell(market, 10, 2);
        Check.due("no meeting", market.trades(), 0);
        Check.due("open again", market.open(0), 2);
        Check.due("OPEN after a call price too", market.open(0), CallMarket.PHASE);
    }

    private static void greatestVolume() {
        CallMarket market = Check.richMarket();
        buy(market, 40, 10);
        buy(market, 30, 10);
        sell(market, 20, 5);
        sell(market, 35, 9);
        indicated("10 at 35 to 40 against 5 below", market, 35, 10, -4);
        sell(market, 28, 11);
        indicated("16 at 28 to 30", market, 30, 16, 4);
    }

    private static void leastDifference() {
        CallMarket market = Check.richMarket();
        buy(market, 50, 10);
        buy(market, 40, 3);
        buy(market, 30, 4);
        sell(market, 10, 10);
        sell(market, 45, 2);
        indicated("no difference at 41 to 44 alone", market, 41, 10, 0);
        CallMarket one = Check.richMarket();
        buy(one, 41, 5);
        buy(one, 39, 6);
        sell(one, 39, 5);
        sell(one, 41, 6);
        // B and S: 11 and 5 at 39, 5 and 5 at 40, 5 and 11 at 41.
        indicated("no difference at 40 alone", one, 40, 5, 0);
        CallMarket odd = Check.richMarket();
        buy(odd, 33, 10);
        buy(odd, 31, 3);
        sell(odd, 31, 10);
        sell(odd, 32, 4);
        // B and S: 13 and 10 at 31, 10 and 14 at 32 and 33.
        indicated("3 more bought is less than 4 more sold", odd, 31, 10, 3);
    }

    private static void moreBoughtEverywhere() {
        CallMarket market = Check.richMarket();
        buy(market, 20, 10);
        sell(market, 5, 4);
        indicated("the greatest, far from the reference", market, 20, 4, 6);
        CallMarket top = Check.richMarket();
        buy(top, 63, 2);
        sell(top, 1, 1);
        indicated("the greatest of all prices", top, 63, 1, 1);
    }

    private static void moreSoldEverywhere() {
        CallMarket market = Check.richMarket();
        buy(market, 60, 4);
        sell(market, 50, 10);
        indicated("the least, far from the reference", market, 50, 4, -6);
        CallMarket bottom = Check.richMarket();
        buy(bottom, 63, 1);
        sell(bottom, 1, 2);
        indicated("the least of all prices", bottom, 1, 1, -1);
    }

    private static void nearestToTheReference() {
        CallMarket below = Check.richMarket();
        buy(below, 20, 4);
        sell(below, 10, 4);
        indicated("below the reference", below, 20, 4, 0);
        CallMarket above = Check.richMarket();
        buy(above, 60, 4);
        sell(above, 50, 4);
        indicated("above the reference", above, 50, 4, 0);
        CallMarket round = Check.richMarket();
        buy(round, 63, 4);
        sell(round, 1, 4);
        indicated("the reference itself", round, 32, 4, 0);
        round.open(0);
        round.close(0);
        buy(round, 63, 1);
        sell(round, 63, 1);
        round.open(0);
        round.close(0);
        buy(round, 63, 4);
        sell(round, 1, 4);
        indicated("a new reference by a call", round, 63, 4, 0);
    }

    /** Neither side is greater at all kept prices, though none of them has a difference of 0. */
    private static void differencesOfBothSigns() {
        CallMarket tie = Check.richMarket();
        tie.open(0);
        buy(tie, 20, 1);
        sell(tie, 20, 1);
        tie.close(0);
        buy(tie, 40, 5);
        buy(tie, 20, 2);
        sell(tie, 10, 5);
        sell(tie, 21, 2);
        // V is 5 at 10 to 40; B less S is 2 at 10 to 20 and -2 at 21 to 40; the reference is 20.
        indicated("the reference among both signs", tie, 20, 5, 2);
        CallMarket high = Check.richMarket();
        buy(high, 40, 5);
        buy(high, 20, 2);
        sell(high, 10, 5);
        sell(high, 21, 2);
        indicated("both signs, the reference among those with more sold", high, 32, 5, -2);
        CallMarket two = Check.richMarket();
        two.open(0);
        buy(two, 50, 1);
        sell(two, 50, 1);
        two.close(0);
        buy(two, 40, 5);
        buy(two, 20, 2);
        sell(two, 10, 5);
        sell(two, 21, 2);
        indicated("both signs, the reference above them", two, 40, 5, -2);
    }

    private static void hiddenPartsCount() {
        CallMarket market = Check.richMarket();
        market.place(0, 0, Check.buy(Check.ICEBERG), 30, 40);
        market.place(1, 0, Check.sell(Check.ICEBERG), 25, 30);
        indicated("all that is left", market, 30, 30, 10);
        market.amend(0, 0, 20);
        indicated("after amend", market, 25, 20, -10);
        market.cancel(1, 1);
        Check.due("no call price", market.indication(0, 0), CallMarket.NOTHING);
    }

    private static void indicationWhileOpen() {
        CallMarket market = Check.openMarket();
        buy(market, 30, 10);
        sell(market, 31, 10);
        for (int part = 0; part < 3; part++) {
            Check.due("prices that do not meet", market.indication(0, part), CallMarket.NOTHING);
        }
        market.close(0);
        sell(market, 30, 3);
        indicated("in a CALL", market, 30, 3, 7);
        Check.due("an indication trades nothing", market.trades(), 0);
        Check.due("and leaves all", market.left(0), 10);
        market.open(0);
        Check.due("nothing to trade after it", market.indication(0, 1), CallMarket.NOTHING);
    }

    private static void indicationRefusals() {
        CallMarket market = Check.richMarket();
        Check.due("NOTHING is named before BAD", market.indication(0, 3), CallMarket.NOTHING);
        Check.due("no such instrument", market.indication(-1, 0), CallMarket.BAD);
        Check.due("no such instrument", market.indication(2, 0), CallMarket.BAD);
        Check.due("neither", market.indication(2, 3), CallMarket.BAD);
        buy(market, 30, 10);
        Check.due("one side alone", market.indication(0, 0), CallMarket.NOTHING);
        sell(market, 30, 10);
        int[] wrong = {-1, 3, Integer.MIN_VALUE, Integer.MAX_VALUE};
        for (int part : wrong) {
            Check.due("part " + part, market.indication(0, part), CallMarket.BAD);
        }
        Check.due("no such instrument", market.indication(Integer.MAX_VALUE, 0), CallMarket.BAD);
        Check.due("the other instrument", market.indication(1, 0), CallMarket.NOTHING);
    }

    private static void tradesOfACall() {
        CallMarket market = Check.richMarket();
        market.place(0, 0, Check.buy(Check.LIMIT), 30, 6);
        market.place(1, 0, Check.buy(Check.LIMIT), 35, 4);
        market.place(2, 0, Check.buy(Check.LIMIT), 30, 6);
        market.place(0, 0, Check.buy(Check.LIMIT), 20, 9);
        market.place(3, 0, Check.sell(Check.LIMIT), 28, 5);
        market.place(4, 0, Check.sell(Check.LIMIT), 25, 3);
        market.place(3, 0, Check.sell(Check.LIMIT), 28, 4);
        market.place(4, 0, Check.sell(Check.LIMIT), 40, 9);
        indicated("before", market, 30, 12, 4);
        Check.due("open", market.open(0), 12);
        Check.due("trades", market.trades(), 5);
        Check.dueTrade("best with best", market, 0, new int[] {1, 5, 30, 3});
        Check.dueTrade("the first at 28", market, 1, new int[] {1, 4, 30, 1});
        Check.dueTrade("the first at 30", market, 2, new int[] {0, 4, 30, 4});
        Check.dueTrade("the second at 28", market, 3, new int[] {0, 6, 30, 2});
        Check.dueTrade("the second at 30", market, 4, new int[] {2, 6, 30, 2});
        Check.due("left(2)", market.left(2), 4);
        Check.due("state(2)", market.state(2), Check.RESTING);
        Check.due("it shows that", market.depth(0, 0, 30), 4);
        Check.due("state(0)", market.state(0), Check.FILLED);
        Check.due("state(6)", market.state(6), Check.FILLED);
        Check.due("too low", market.left(3), 9);
        Check.due("too dear", market.left(7), 9);
        Check.due("owed(3)", market.owed(3), 270);
        Check.due("owed(1)", market.owed(1), -120);
        Check.due("position(0, 0)", market.position(0, 0), 6);
        Check.due("a NOW is accepted now", market.place(4, 0, Check.sell(Check.NOW), 30, 1), 8);
        Check.due("and meets the rest", market.left(2), 3);
    }

    private static void icebergsInACall() {
        CallMarket market = Check.openMarket();
        market.place(0, 0, Check.buy(Check.ICEBERG), 30, 20);
        market.place(1, 0, Check.buy(Check.ICEBERG), 30, 12);
        market.place(2, 0, Check.buy(Check.ICEBERG), 29, 12);
        market.place(3, 0, Check.sell(Check.LIMIT), 30, 2);
        market.close(0);
        Check.due("shows 3 in the CALL too", market.ahead(1), 3);
        market.place(3, 0, Check.sell(Check.LIMIT), 30, 7);
        Check.due("open", market.open(0), 7);
        Check.due("one trade of all that is left", market.trade(1, 3), 7);
        Check.due("it keeps its place", market.ahead(0), 0);
        Check.due("and shows 5", market.ahead(1), 5);
        Check.due("left(0)", market.left(0), 11);
        market.place(3, 0, Check.sell(Check.LIMIT), 30, 1);
        market.close(0);
        market.place(3, 0, Check.sell(Check.LIMIT), 30, 8);
        Check.due("open again", market.open(0), 8);
        Check.due("it shows what is left", market.ahead(1), 2);
        market.place(3, 0, Check.sell(Check.LIMIT), 30, 4);
        Check.due("the second shows 3", market.depth(0, 0, 30), 3);
        market.close(0);
        market.place(3, 0, Check.sell(Check.LIMIT), 63, 4);
        Check.due("open without a call price", market.open(0), 0);
        Check.due("one that did not trade shows what it showed", market.depth(0, 0, 30), 3);
        market.close(0);
        market.place(4, 0, Check.buy(Check.LIMIT), 31, 4);
        market.place(3, 0, Check.sell(Check.LIMIT), 31, 4);
        Check.due("open for others", market.open(0), 4);
        Check.due("it shows what it showed", market.depth(0, 0, 30), 3);
    }

    private static void membersTradeWithThemselves() {
        CallMarket market = Check.richMarket();
        market.place(2, 0, Check.buy(Check.LIMIT), 30, 6);
        market.place(2, 0, Check.sell(Check.LIMIT), 30, 6);
        Check.due("open", market.open(0), 6);
        Check.dueTrade("with oneself", market, 0, new int[] {0, 1, 30, 6});
        Check.due("position", market.position(2, 0), 0);
        Check.due("owed", market.owed(2), 0);
        Check.due("state(0)", market.state(0), Check.FILLED);
        Check.due("state(1)", market.state(1), Check.FILLED);
    }

    private static void bothInstrumentsApart() {
        CallMarket market = Check.richMarket();
        market.place(0, 1, Check.buy(Check.LIMIT), 30, 6);
        market.place(1, 0, Check.sell(Check.LIMIT), 20, 6);
        Check.due("open(0)", market.open(0), 0);
        Check.due("open(1)", market.open(1), 0);
        Check.due("trades", market.trades(), 0);
        market.close(1);
        market.place(1, 1, Check.sell(Check.LIMIT), 30, 5);
        Check.due("open(1) again", market.open(1), 5);
        Check.due("position in 1", market.position(0, 1), 5);
        Check.due("position in 0", market.position(0, 0), 0);
    }

    /** Each trade fills one order alone, so that there are as many trades as there can be. */
    private static void manyInOneCall() {
        CallMarket market = Check.richMarket();
        for (int order = 0; order < 60; order++) {
            buy(market, 30, order == 0 ? 1 : 2);
            sell(market, 30, 2);
        }
        indicated("120 orders", market, 30, 119, -1);
        Check.due("open", market.open(0), 119);
        Check.due("trades", market.trades(), 119);
        Check.dueTrade("the last", market, 118, new int[] {118, 119, 30, 1});
        Check.due("left of the last that sells", market.left(119), 1);
        Check.due("the last that buys is filled", market.state(118), Check.FILLED);
    }
}
