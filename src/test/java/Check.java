/** What the tests share: it counts and prints the answers that are not as due. */
final class Check {
    static final int LIMIT = 0;
    static final int NOW = 1;
    static final int ALL = 2;
    static final int MARKET = 3;
    static final int POST = 4;
    static final int ICEBERG = 5;

    static final int RESTING = 0;
    static final int FILLED = 1;
    static final int WITHDRAWN = 2;

    // A fault near the root would fill the screen many times over.
    private static final int TOLD = 200;

    private static int asked = 0;
    private static int wrong = 0;

    private Check() {
    }

    static void due(String what, long got, long want) {
        asked++;
        if (got != want) {
            wrong++;
            if (wrong <= TOLD) {
                System.out.println(what + " answered " + got + ", due is " + want);
            }
        }
    }

    static void due(String what, boolean got, boolean want) {
        due(what, got ? 1 : 0, want ? 1 : 0);
    }

    static void dueTrade(String what, CallMarket market, int k, int[] parts) {
        for (int part = 0; part < 4; part++) {
            due(what + ": trade(" + k + ", " + part + ")", market.trade(k, part), parts[part]);
        }
    }

    static int wrongs() {
        return wrong;
    }

    static void end() {
        System.out.println(asked + " answers looked at, " + wrong + " of them not as due");
        if (wrong != 0 || asked == 0) {
            System.exit(1);
        }
    }

    static int buy(int kind) {
        return 2 * kind;
    }

    static int sell(int kind) {
        return 2 * kind + 1;
    }

    static CallMarket richMarket() {
        CallMarket market = new CallMarket();
        for (int member = 0; member < 5; member++) {
            market.deposit(member, 100000);
        }
        return market;
    }

    static CallMarket openMarket() {
        CallMarket market = richMarket();
        market.open(0);
        market.open(1);
        return market;
    }
}
