/** Promises 1, 2 and 16 to 19: a new object, deposit, position, money, owed and risk. */
public final class MembersTest {
    public static void main(String[] args) {
        newObject();
        deposit();
        depositBelowNought();
        depositWhileOwed();
        positionAndOwed();
        riskOfOrders();
        riskOfPositions();
        noSuchMember();
        Check.end();
    }

    private static void newObject() {
        CallMarket market = new CallMarket();
        for (int member = 0; member < 5; member++) {
            Check.due("new: money(" + member + ")", market.money(member), 0);
            Check.due("new: owed(" + member + ")", market.owed(member), 0);
            Check.due("new: risk(" + member + ")", market.risk(member), 0);
        }
        for (int instrument = 0; instrument < 2; instrument++) {
            for (int member = 0; member < 5; member++) {
                Check.due("new: position", market.position(member, instrument), 0);
            }
            Check.due("new: best that buys", market.best(instrument, 0), CallMarket.NOTHING);
            Check.due("new: best that sells", market.best(instrument, 1), CallMarket.NOTHING);
            Check.due("new: indication", market.indication(instrument, 0), CallMarket.NOTHING);
            Check.due("new: depth", market.depth(instrument, 0, 32), 0);
            Check.due("new: close", market.close(instrument), CallMarket.PHASE);
            Check.due("new: open", market.open(instrument), 0);
        }
        Check.due("new: trades()", market.trades(), 0);
        Check.due("new: trade(0, 0)", market.trade(0, 0), CallMarket.NOTHING);
        Check.due("new: left(0)", market.left(0), CallMarket.BAD);
        Check.due("new: state(0)", market.state(0), CallMarket.BAD);
        Check.due("new: ahead(0)", market.ahead(0), CallMarket.NOTHING);
        market.deposit(0, 1000);
        Check.due("new: the first order", market.place(0, 0, Check.buy(Check.LIMIT), 10, 1), 0);
    }

    private static void deposit() {
        CallMarket market = new CallMarket();
        Check.due("deposit(0, 7)", market.deposit(0, 7), true);
        Check.due("deposit(0, 0)", market.deposit(0, 0), true);
        Check.due("deposit(4, 1000000)", market.deposit(4, 1000000), true);
        Check.due("deposit(4, 1000001)", market.deposit(4, 1000001), false);
        Check.due("deposit(4, max)", market.deposit(4, Integer.MAX_VALUE), false);
        Check.due("deposit(-1, 5)", market.deposit(-1, 5), false);
        Check.due("deposit(5, 5)", market.deposit(5, 5), false);
        Check.due("deposit(max, 5)", market.deposit(Integer.MAX_VALUE, 5), false);
        Check.due("money(0)", market.money(0), 7);
        Check.due("money(1)", market.money(1), 0);
        Check.due("money(4)", market.money(4), 1000000);
        for (int call = 0; call < 3; call++) {
            market.deposit(4, 1000000);
        }
        Check.due("money(4) after four", market.money(4), 4000000);
        Check.due("deposit(4, -1000001)", market.deposit(4, -1000001), false);
        Check.due("deposit(4, min)", market.deposit(4, Integer.MIN_VALUE), false);
        Check.due("deposit(4, -1000000)", market.deposit(4, -1000000), true);
        Check.due("money(4) after a withdrawal", market.money(4), 3000000);
    }

    private static void depositBelowNought() {
        CallMarket market = new CallMarket();
        Check.due("deposit(0, -1) of nothing", market.deposit(0, -1), false);
        market.deposit(0, 100);
        market.place(0, 0, Check.buy(Check.LIMIT), 10, 20);
        Check.due("deposit to below the risk", market.deposit(0, -41), false);
        Check.due("money after that", market.money(0), 100);
        Check.due("deposit to just the risk", market.deposit(0, -40), true);
        Check.due("money after that", market.money(0), 60);
        Check.due("one less", market.deposit(0, -1), false);
        Check.due("none less", market.deposit(0, 0), true);
        market.cancel(0, 0);
        Check.due("all of it, without risk", market.deposit(0, -60), true);
        Check.due("money after that", market.money(0), 0);
    }

    /** A settled debt can put the money below the risk; a deposit that is too small still counts then. */
    private static void depositWhileOwed() {
        CallMarket market = new CallMarket();
        market.deposit(0, 300);
        market.deposit(1, 300);
        market.place(0, 0, Check.buy(Check.LIMIT), 63, 99);
        market.place(1, 0, Check.sell(Check.LIMIT), 63, 99);
        Check.due("open", market.open(0), 99);
        market.settle();
        Check.due("money of the buyer", market.money(0), 300 - 63 * 99);
        Check.due("a deposit below the risk", market.deposit(0, 1), true);
        Check.due("a deposit of 0 below the risk", market.deposit(0, 0), true);
        Check.due("a withdrawal below the risk", market.deposit(0, -1), false);
        Check.due("money of the buyer", market.money(0), 301 - 63 * 99);
        Check.due("no money for more", market.place(0, 0, Check.sell(Check.LIMIT), 63, 1), CallMarket.RISK);
    }

    private static void positionAndOwed() {
        CallMarket market = Check.openMarket();
        market.place(1, 1, Check.sell(Check.LIMIT), 20, 10);
        market.place(0, 1, Check.buy(Check.LIMIT), 25, 4);
        Check.due("position of the buyer", market.position(0, 1), 4);
        Check.due("position of the seller", market.position(1, 1), -4);
        Check.due("position in the other instrument", market.position(0, 0), 0);
        Check.due("owed to the buyer", market.owed(0), -80);
        Check.due("owed to the seller", market.owed(1), 80);
        Check.due("money stays until the end of the day", market.money(0), 100000);
        market.place(1, 0, Check.buy(Check.LIMIT), 30, 2);
        market.place(0, 0, Check.sell(Check.LIMIT), 30, 2);
        Check.due("position of the one who sold", market.position(0, 0), -2);
        Check.due("position of the one who bought", market.position(1, 0), 2);
        Check.due("owed in both instruments", market.owed(0), -20);
        Check.due("owed in both instruments", market.owed(1), 20);
        Check.due("owed to one who did not trade", market.owed(2), 0);
    }

    private static void riskOfOrders() {
        CallMarket market = Check.richMarket();
        market.place(0, 0, Check.buy(Check.LIMIT), 10, 7);
        Check.due("risk of 7 to buy", market.risk(0), 21);
        market.place(0, 0, Check.sell(Check.LIMIT), 20, 5);
        Check.due("risk of 5 to sell too", market.risk(0), 21);
        market.place(0, 0, Check.sell(Check.ICEBERG), 20, 9);
        Check.due("risk of what an ICEBERG hides", market.risk(0), 42);
        market.place(0, 1, Check.sell(Check.LIMIT), 20, 2);
        Check.due("risk of both instruments", market.risk(0), 52);
        Check.due("risk of another member", market.risk(1), 0);
        market.amend(0, 2, 1);
        Check.due("risk after amend", market.risk(0), 31);
        market.cancel(0, 3);
        Check.due("risk after cancel", market.risk(0), 21);
    }

    private static void riskOfPositions() {
        CallMarket market = Check.openMarket();
        market.place(1, 1, Check.sell(Check.LIMIT), 20, 10);
        market.place(0, 1, Check.buy(Check.LIMIT), 20, 10);
        Check.due("risk of 10", market.risk(0), 50);
        Check.due("risk of -10", market.risk(1), 50);
        market.place(0, 1, Check.sell(Check.LIMIT), 30, 15);
        Check.due("risk of 10 with 15 to sell", market.risk(0), 50);
        market.place(0, 1, Check.buy(Check.LIMIT), 10, 1);
        Check.due("risk of 10 with 1 to buy", market.risk(0), 55);
        market.place(0, 1, Check.sell(Check.LIMIT), 31, 10);
        Check.due("risk of 10 with 25 to sell", market.risk(0), 75);
        market.place(1, 1, Check.buy(Check.LIMIT), 5, 25);
        Check.due("risk of -10 with 25 to buy", market.risk(1), 75);
    }

    private static void noSuchMember() {
        CallMarket market = Check.richMarket();
        int[] wrong = {-1, 5, Integer.MIN_VALUE, Integer.MAX_VALUE};
        for (int member : wrong) {
            Check.due("money(" + member + ")", market.money(member), 0);
            Check.due("owed(" + member + ")", market.owed(member), 0);
            Check.due("risk(" + member + ")", market.risk(member), 0);
            Check.due("position(" + member + ", 0)", market.position(member, 0), 0);
        }
        Check.due("position(0, -1)", market.position(0, -1), 0);
        Check.due("position(0, 2)", market.position(0, 2), 0);
        Check.due("position(0, max)", market.position(0, Integer.MAX_VALUE), 0);
    }
}
