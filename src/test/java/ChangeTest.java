/** Promises 4 and 5: cancel and amend. */
public final class ChangeTest {
    public static void main(String[] args) {
        cancel();
        cancelWhatDoesNotRest();
        cancelInEachPlace();
        amend();
        amendIceberg();
        amendRefusals();
        Check.end();
    }

    private static void cancel() {
        CallMarket market = Check.openMarket();
        market.place(0, 0, Check.buy(Check.LIMIT), 30, 9);
        Check.due("of another member", market.cancel(1, 0), false);
        Check.due("of no member", market.cancel(-1, 0), false);
        Check.due("of no member", market.cancel(5, 0), false);
        Check.due("no such order", market.cancel(0, 1), false);
        Check.due("no such order", market.cancel(0, -1), false);
        Check.due("no such order", market.cancel(0, Integer.MIN_VALUE), false);
        Check.due("no such order", market.cancel(0, Integer.MAX_VALUE), false);
        Check.due("no such order", market.cancel(0, 120), false);
        Check.due("it rests still", market.state(0), Check.RESTING);
        Check.due("cancel", market.cancel(0, 0), true);
        Check.due("it is withdrawn", market.state(0), Check.WITHDRAWN);
        Check.due("what was left stays", market.left(0), 9);
        Check.due("it is out of its queue", market.best(0, 0), CallMarket.NOTHING);
        Check.due("once more", market.cancel(0, 0), false);
        market.place(1, 0, Check.sell(Check.LIMIT), 30, 9);
        Check.due("none meets it", market.trades(), 0);
    }

    private static void cancelWhatDoesNotRest() {
        CallMarket market = Check.openMarket();
        market.place(0, 0, Check.buy(Check.LIMIT), 30, 9);
        market.place(1, 0, Check.sell(Check.LIMIT), 30, 9);
        market.place(1, 0, Check.sell(Check.NOW), 30, 9);
        Check.due("a filled one", market.cancel(0, 0), false);
        Check.due("a filled one", market.cancel(1, 1), false);
        Check.due("a withdrawn one", market.cancel(1, 2), false);
        Check.due("it stays filled", market.state(0), Check.FILLED);
        market.place(0, 0, Check.buy(Check.LIMIT), 30, 9);
        market.close(0);
        Check.due("in a CALL too", market.cancel(0, 3), true);
    }

    private static void cancelInEachPlace() {
        for (int place = 0; place < 3; place++) {
            CallMarket market = Check.richMarket();
            for (int order = 0; order < 3; order++) {
                market.place(0, 0, Check.sell(Check.LIMIT), 30, 1 << order);
            }
            market.place(0, 0, Check.sell(Check.LIMIT), 31, 50);
            market.cancel(0, place);
            Check.due("place " + place + ": the others stay", market.depth(0, 1, 30), 7 - (1 << place));
            Check.due("place " + place + ": the last waits", market.ahead(2),
                place == 2 ? CallMarket.NOTHING : 3 - (1 << place));
            Check.due("place " + place + ": the next queue stays", market.depth(0, 1, 31), 50);
            Check.due("place " + place + ": a new one", market.place(0, 0, Check.sell(Check.LIMIT), 30, 8), 4);
            Check.due("place " + place + ": at the end", market.ahead(4), 7 - (1 << place));
        }
    }

    private static void amend() {
        CallMarket market = Check.openMarket();
        market.place(0, 0, Check.buy(Check.LIMIT), 30, 9);
        market.place(1, 0, Check.buy(Check.LIMIT), 30, 2);
        Check.due("amend", market.amend(0, 0, 8), 0);
        Check.due("left", market.left(0), 8);
        Check.due("it keeps its place", market.ahead(0), 0);
        Check.due("it shows that", market.ahead(1), 8);
        Check.due("to 1", market.amend(0, 0, 1), 0);
        Check.due("it shows that", market.depth(0, 0, 30), 3);
        market.place(2, 0, Check.sell(Check.LIMIT), 30, 2);
        Check.due("it is filled first", market.state(0), Check.FILLED);
        Check.due("1 of the other", market.left(1), 1);
        market.close(0);
        market.place(1, 0, Check.buy(Check.LIMIT), 30, 20);
        Check.due("in a CALL too", market.amend(1, 3, 10), 0);
        Check.due("left", market.left(3), 10);
    }

    private static void amendIceberg() {
        CallMarket market = Check.openMarket();
        market.place(0, 0, Check.buy(Check.ICEBERG), 30, 20);
        market.place(1, 0, Check.buy(Check.LIMIT), 30, 2);
        market.amend(0, 0, 12);
        Check.due("it shows 5 still", market.ahead(1), 5);
        market.place(2, 0, Check.sell(Check.LIMIT), 30, 3);
        Check.due("it shows 2", market.ahead(1), 2);
        market.amend(0, 0, 4);
        Check.due("it shows no more for it", market.ahead(1), 2);
        Check.due("left", market.left(0), 4);
        market.amend(0, 0, 1);
        Check.due("it shows no more than is left", market.ahead(1), 1);
        Check.due("in its place", market.ahead(0), 0);
        market.place(2, 0, Check.sell(Check.LIMIT), 30, 2);
        Check.due("filled", market.state(0), Check.FILLED);
        Check.dueTrade("1 of it", market, 1, new int[] {0, 3, 30, 1});
    }

    private static void amendRefusals() {
        CallMarket market = Check.openMarket();
        market.place(0, 0, Check.buy(Check.LIMIT), 30, 9);
        Check.due("as much as is left", market.amend(0, 0, 9), CallMarket.BAD);
        Check.due("more", market.amend(0, 0, 10), CallMarket.BAD);
        Check.due("nothing", market.amend(0, 0, 0), CallMarket.BAD);
        Check.due("below nothing", market.amend(0, 0, -1), CallMarket.BAD);
        Check.due("the greatest", market.amend(0, 0, Integer.MAX_VALUE), CallMarket.BAD);
        Check.due("the least", market.amend(0, 0, Integer.MIN_VALUE), CallMarket.BAD);
        Check.due("of another member", market.amend(1, 0, 5), CallMarket.NOTHING);
        Check.due("of no member", market.amend(5, 0, 5), CallMarket.NOTHING);
        Check.due("no such order", market.amend(0, 1, 5), CallMarket.NOTHING);
        Check.due("no such order", market.amend(0, -1, 5), CallMarket.NOTHING);
        Check.due("no such order", market.amend(0, Integer.MAX_VALUE, 5), CallMarket.NOTHING);
        Check.due("NOTHING before BAD", market.amend(1, 0, 0), CallMarket.NOTHING);
        Check.due("all of it is left", market.left(0), 9);
        market.place(1, 0, Check.buy(Check.LIMIT), 30, 1);
        Check.due("1 can't be less", market.amend(1, 1, 1), CallMarket.BAD);
        market.cancel(0, 0);
        Check.due("a withdrawn one", market.amend(0, 0, 5), CallMarket.NOTHING);
        market.place(2, 0, Check.sell(Check.LIMIT), 30, 1);
        Check.due("a filled one", market.amend(1, 1, 1), CallMarket.NOTHING);
    }
}
