/** Promise 3 at its boundaries: each method holds one part of its sentences. */
public final class PlaceBoundaryTest {
    private static final String RICH = """
        deposit 0 100000
        deposit 1 100000
        """;

    public static void main(String[] args) {
        member();
        instrument();
        kind();
        quantityOfEachKind();
        limitOfEachKind();
        anyLimitForMarket();
        full();
        fullWhateverBecameOfThem();
        phase();
        phaseOfTheOtherInstrument();
        riskOfEachKind();
        riskWithPositionAndOrders();
        riskWithOrdersThatWouldBeWithdrawn();
        riskWhenMoneyIsBelowIt();
        post();
        postAtTheOutermostPrices();
        all();
        allAndWhatDoesNotCount();
        badComesFirst();
        fullComesNext();
        phaseComesThen();
        riskComesBeforeRefused();
        Check.end();
    }

    private static String call(int how, int limit, int quantity) {
        return "place 0 0 " + how + " " + limit + " " + quantity + " = ";
    }

    /** An OPEN instrument in which an order of member 0 of this kind and side is accepted, whatever its limit. */
    private static String sceneFor(int how) {
        String open = RICH + "open 0\n";
        if (how / 2 == Check.POST) {
            return open;
        }
        return open + "2 times place 1 0 " + (how % 2 == 0 ? "sell.LIMIT 1" : "buy.LIMIT 63") + " 99\n";
    }

    private static int nextNumber(int how) {
        return how / 2 == Check.POST ? 0 : 2;
    }

    /** "BAD when there is no such member" */
    private static void member() {
        Rows.hold("3: the first and the last member", """
            deposit 0 1000
            deposit 4 1000
            place 0 0 buy.LIMIT 20 1 = 0
            place 4 0 buy.LIMIT 20 1 = 1
            risk 0 = 3
            risk 4 = 3
            """);
        Refusals.hold("3: no such member", Refusals.BUSY, """
            place -1 0 buy.LIMIT 20 1 = BAD
            place 5 0 buy.LIMIT 20 1 = BAD
            place MIN 0 buy.LIMIT 20 1 = BAD
            place MAX 0 buy.LIMIT 20 1 = BAD
            place -1 0 sell.MARKET 20 1 = BAD
            place 5 1 sell.ICEBERG 20 1 = BAD
            """);
    }

    /** "no such .. instrument" */
    private static void instrument() {
        Rows.hold("3: the first and the last instrument", RICH + """
            place 0 0 buy.LIMIT 20 1 = 0
            place 0 1 buy.LIMIT 21 1 = 1
            best 0 0 = 20
            best 1 0 = 21
            """);
        Refusals.hold("3: no such instrument", Refusals.BUSY, """
            place 0 -1 buy.LIMIT 20 1 = BAD
            place 0 2 buy.LIMIT 20 1 = BAD
            place 0 MIN buy.LIMIT 20 1 = BAD
            place 0 MAX buy.LIMIT 20 1 = BAD
            place 0 2 buy.MARKET 20 1 = BAD
            """);
    }

    /** "no such .. kind"; "how is 2 * kind for one that buys, 2 * kind + 1 for one that sells" */
    private static void kind() {
        Rows.hold("3: the first and the last kind", RICH + """
            place 0 0 0 20 9 = 0
            place 0 0 1 40 9 = 1
            place 0 1 10 20 9 = 2
            place 0 1 11 40 9 = 3
            depth 0 0 20 = 9
            depth 0 1 40 = 9
            depth 1 0 20 = 5
            depth 1 1 40 = 5
            """);
        // -1 and -2 are next to kind 0: a division that rounds towards 0 must not take -1 for it.
        Refusals.hold("3: no such kind", Refusals.BUSY, """
            place 0 0 -1 20 1 = BAD
            place 0 0 -2 20 1 = BAD
            place 0 0 12 20 1 = BAD
            place 0 0 13 20 1 = BAD
            place 0 0 MIN 20 1 = BAD
            place 0 0 MAX 20 1 = BAD
            """);
    }

    /** "quantity is not 1 .. 99" */
    private static void quantityOfEachKind() {
        for (int how = 0; how < 12; how++) {
            int number = nextNumber(how);
            int rest = how / 2 == Check.POST ? 1 : 0;
            Rows.hold("3: the least quantity", sceneFor(how) + call(how, 30, 1) + number + "\n"
                + "left " + number + " = " + rest);
            Rows.hold("3: the greatest quantity", sceneFor(how) + call(how, 30, 99) + number + "\n"
                + "left " + number + " = " + 99 * rest);
            Refusals.hold("3: quantity", sceneFor(how), call(how, 30, 0) + "BAD\n" + call(how, 30, 100) + "BAD\n"
                + call(how, 30, -1) + "BAD\n" + call(how, 30, Integer.MIN_VALUE) + "BAD\n"
                + call(how, 30, Integer.MAX_VALUE) + "BAD\n");
        }
    }

    /** "limit is not 1 .. 63" */
    private static void limitOfEachKind() {
        for (int how = 0; how < 12; how++) {
            if (how / 2 == Check.MARKET) {
                continue;
            }
            int number = nextNumber(how);
            Rows.hold("3: the least limit", sceneFor(how) + call(how, 1, 1) + number);
            Rows.hold("3: the greatest limit", sceneFor(how) + call(how, 63, 1) + number);
            Refusals.hold("3: limit", sceneFor(how), call(how, 0, 1) + "BAD\n" + call(how, 64, 1) + "BAD\n"
                + call(how, -1, 1) + "BAD\n" + call(how, Integer.MIN_VALUE, 1) + "BAD\n"
                + call(how, Integer.MAX_VALUE, 1) + "BAD\n");
        }
    }

    /** "(but any limit for MARKET)" */
    private static void anyLimitForMarket() {
        int[] limits = {Integer.MIN_VALUE, -1, 0, 1, 63, 64, Integer.MAX_VALUE};
        for (int limit : limits) {
            for (int how = 6; how <= 7; how++) {
                Rows.hold("3: any limit for MARKET", sceneFor(how) + call(how, limit, 99) + 2 + "\n"
                    + "state 2 = FILLED\n" + call(how, limit, 100) + "BAD\n" + call(how, limit, 0) + "BAD");
                Refusals.hold("3: any limit for MARKET, in a CALL too", sceneFor(how) + "close 0\n",
                    call(how, limit, 1) + "PHASE");
            }
        }
    }

    /** "FULL when there were 120" */
    private static void full() {
        Rows.hold("3: the 120th order and one more", RICH + """
            119 times place 0 0 buy.LIMIT 20 1
            place 0 1 buy.LIMIT 20 1 = 119
            state 119 = RESTING
            place 0 1 buy.LIMIT 20 1 = FULL
            place 1 0 sell.ICEBERG 20 1 = FULL
            state 120 = BAD
            risk 0 = 362
            """);
        Refusals.hold("3: FULL", Refusals.FILLED_UP, """
            place 0 0 buy.LIMIT 20 1 = FULL
            place 0 1 sell.LIMIT 63 99 = FULL
            place 1 0 buy.NOW 40 1 = FULL
            place 1 0 buy.ALL 40 1 = FULL
            place 1 0 buy.MARKET 0 1 = FULL
            place 1 0 buy.POST 2 1 = FULL
            place 1 0 buy.ICEBERG 2 1 = FULL
            """);
    }

    /** "when there were 120": those that were filled or withdrawn count, those that were refused do not. */
    private static void fullWhateverBecameOfThem() {
        Rows.hold("3: refused orders do not count", RICH + """
            open 1
            119 times place 0 0 buy.LIMIT 20 1
            9 times place 0 0 buy.LIMIT 20 0 = BAD
            9 times place 0 0 buy.NOW 20 1 = PHASE
            9 times place 2 0 buy.LIMIT 20 1 = RISK
            9 times place 0 1 buy.ALL 20 1 = REFUSED
            place 0 0 buy.LIMIT 20 1 = 119
            place 0 0 buy.LIMIT 20 1 = FULL
            """);
        Rows.hold("3: orders that are gone count", RICH + """
            open 0
            40 times place 0 0 buy.NOW 20 1
            40 times place 0 0 buy.LIMIT 20 1
            39 times place 1 0 sell.LIMIT 20 1
            cancel 0 79 = true
            settle
            place 0 0 buy.LIMIT 20 1 = 119
            cancel 0 119 = true
            best 0 0 = NOTHING
            place 0 0 buy.LIMIT 20 1 = FULL
            settle
            place 0 0 buy.LIMIT 20 1 = FULL
            """);
    }

    /** "PHASE when the instrument is in a CALL and the kind is neither LIMIT nor ICEBERG" */
    private static void phase() {
        Rows.hold("3: LIMIT and ICEBERG in a CALL", Refusals.BUSY + """
            place 3 1 buy.LIMIT 60 1 = 11
            place 3 1 sell.LIMIT 10 1 = 12
            place 3 1 buy.ICEBERG 60 1 = 13
            place 3 1 sell.ICEBERG 10 1 = 14
            trades = 3
            """);
        Refusals.hold("3: the others in a CALL", Refusals.BUSY, """
            place 3 1 buy.NOW 60 1 = PHASE
            place 3 1 sell.NOW 10 1 = PHASE
            place 3 1 buy.ALL 60 1 = PHASE
            place 3 1 sell.ALL 10 1 = PHASE
            place 3 1 buy.MARKET 60 1 = PHASE
            place 3 1 sell.MARKET 10 1 = PHASE
            place 3 1 buy.POST 10 1 = PHASE
            place 3 1 sell.POST 60 1 = PHASE
            """);
        Rows.hold("3: the others while OPEN", Refusals.BUSY + """
            open 1 = 5
            place 3 1 buy.NOW 60 1 = 11
            place 3 1 buy.ALL 60 1 = 12
            place 3 1 buy.MARKET 60 1 = 13
            place 3 1 buy.POST 10 1 = 14
            """);
    }

    /** "when the instrument is in a CALL": the phase of the other one counts for nothing. */
    private static void phaseOfTheOtherInstrument() {
        Rows.hold("3: each instrument has its own phase", RICH + """
            open 0 = 0
            place 0 0 buy.POST 10 1 = 0
            place 0 1 buy.POST 10 1 = PHASE
            open 1 = 0
            close 0 = 0
            place 0 0 buy.POST 10 1 = PHASE
            place 0 1 buy.POST 10 1 = 1
            settle
            place 0 1 buy.POST 10 1 = PHASE
            """);
    }

    /** "RISK when the member's risk would be greater than its money if the whole order rested (whatever its kind)" */
    private static void riskOfEachKind() {
        for (int how = 0; how < 12; how++) {
            // 10 of instrument 0 are a risk of 30, all the same whether they would trade, rest or be withdrawn.
            String just = sceneFor(how).replace("deposit 0 100000", "deposit 0 30");
            Rows.hold("3: just the money for it", just + call(how, 30, 10) + nextNumber(how));
            Refusals.hold("3: one more than the money", just, call(how, 30, 11) + "RISK");
            String less = sceneFor(how).replace("deposit 0 100000", "deposit 0 29");
            Refusals.hold("3: one less money", less, call(how, 30, 10) + "RISK");
            Refusals.hold("3: no money", sceneFor(how).replace("deposit 0 100000", ""), call(how, 30, 1) + "RISK");
        }
        Rows.hold("3: instrument 1", "deposit 0 50\n" + """
            place 0 1 sell.LIMIT 30 11 = RISK
            place 0 1 sell.LIMIT 30 10 = 0
            """);
        Refusals.hold("3: instrument 1", "deposit 0 49\n", "place 0 1 buy.LIMIT 30 10 = RISK");
    }

    /** The same sentence for a member with a position of 11 and 17 to buy in instrument 0, and money of 100. */
    private static void riskWithPositionAndOrders() {
        String scene = Refusals.BUSY + "deposit 0 -900\n";
        Refusals.hold("3: more than the money", scene, """
            place 0 0 buy.LIMIT 20 6 = RISK
            place 0 0 sell.LIMIT 50 45 = RISK
            place 0 1 buy.LIMIT 20 4 = RISK
            place 0 1 sell.LIMIT 50 4 = RISK
            place 0 0 sell.MARKET 0 45 = RISK
            """);
        Rows.hold("3: as much as the money", scene + "place 0 0 buy.LIMIT 20 5 = 11\nrisk 0 = 99");
        Rows.hold("3: as much as the money", scene + "place 0 0 sell.LIMIT 50 44 = 11\nrisk 0 = 99");
        Rows.hold("3: as much as the money", scene + "place 0 1 buy.LIMIT 20 3 = 11\nrisk 0 = 99");
        Rows.hold("3: as much as the money", scene + "place 0 1 sell.LIMIT 50 3 = 11\nrisk 0 = 99");
    }

    /** "if the whole order rested": what it would withdraw or trade on its way is not taken off before. */
    private static void riskWithOrdersThatWouldBeWithdrawn() {
        String own = """
            deposit 0 30
            open 0
            place 0 0 sell.LIMIT 30 10
            """;
        Refusals.hold("3: its own orders count as they rest", own, """
            place 0 0 buy.LIMIT 30 11 = RISK
            place 0 0 buy.MARKET 0 11 = RISK
            place 0 0 sell.LIMIT 31 1 = RISK
            """);
        Rows.hold("3: its own orders count as they rest", own + """
            place 0 0 buy.LIMIT 30 10 = 1
            state 0 = WITHDRAWN
            risk 0 = 30
            """);
    }

    /** The same sentence where a debt has put the money below the risk: even what lessens the risk is too much. */
    private static void riskWhenMoneyIsBelowIt() {
        String debt = """
            deposit 0 33
            deposit 1 1000
            place 0 0 buy.LIMIT 1 11
            place 1 0 sell.LIMIT 1 11
            open 0
            settle
            open 0
            """;
        Refusals.hold("3: the money is 22, the risk 33", debt, """
            place 0 0 sell.LIMIT 50 1 = RISK
            place 0 0 sell.LIMIT 50 11 = RISK
            place 0 0 sell.NOW 50 11 = RISK
            """);
        Rows.hold("3: with 33 again, up to the same on the other side", debt + """
            deposit 0 10 = true
            place 0 0 sell.LIMIT 50 1 = RISK
            deposit 0 1 = true
            place 0 0 sell.LIMIT 50 23 = RISK
            place 0 0 sell.LIMIT 50 22 = 2
            place 0 0 buy.LIMIT 10 1 = RISK
            """);
    }

    /** "REFUSED for POST when the limit of some resting order of the other side is good for it" */
    private static void post() {
        // Instrument 0 has buys at 30, of members 0 and 1, and sells at 34, of members 2 and 3.
        Refusals.hold("3: POST that would meet", Refusals.BUSY, """
            place 0 0 buy.POST 34 1 = REFUSED
            place 0 0 buy.POST 35 1 = REFUSED
            place 2 0 buy.POST 34 1 = REFUSED
            place 2 0 sell.POST 30 1 = REFUSED
            place 2 0 sell.POST 29 1 = REFUSED
            place 0 0 sell.POST 30 1 = REFUSED
            """);
        Rows.hold("3: POST one price off", Refusals.BUSY + """
            place 0 0 buy.POST 33 1 = 11
            state 11 = RESTING
            best 0 0 = 33
            """);
        Rows.hold("3: POST one price off", Refusals.BUSY + """
            place 2 0 sell.POST 31 1 = 11
            state 11 = RESTING
            best 0 1 = 31
            """);
        Rows.hold("3: only what rests counts for POST", Refusals.BUSY + """
            cancel 2 4 = true
            place 0 0 buy.POST 34 1 = REFUSED
            cancel 3 5 = true
            place 0 0 buy.POST 34 1 = 11
            trades = 3
            """);
    }

    /** The same sentence at the least and the greatest price, and where there is nothing to meet. */
    private static void postAtTheOutermostPrices() {
        Refusals.hold("3: POST to buy at 63", RICH + "open 0\nplace 1 0 sell.LIMIT 63 1",
            "place 0 0 buy.POST 63 1 = REFUSED");
        Rows.hold("3: POST to buy at 62", RICH + "open 0\nplace 1 0 sell.LIMIT 63 1\nplace 0 0 buy.POST 62 1 = 1");
        Refusals.hold("3: POST to sell at 1", RICH + "open 0\nplace 1 0 buy.LIMIT 1 1",
            "place 0 0 sell.POST 1 1 = REFUSED");
        Rows.hold("3: POST to sell at 2", RICH + "open 0\nplace 1 0 buy.LIMIT 1 1\nplace 0 0 sell.POST 2 1 = 1");
        Rows.hold("3: POST that meets none", RICH + """
            open 0
            place 0 0 buy.POST 63 1 = 0
            place 0 0 buy.POST 63 1 = 1
            open 1
            place 0 1 sell.POST 1 1 = 2
            """);
    }

    /**
     * "and for ALL when the resting orders of the other side whose limits are good for it and that are of other
     * members have together less left than the quantity"
     */
    private static void all() {
        // At 34 ICEBERG 4 of member 2 has 7 left and order 5 of member 3 has 7; at 30 are 17 of 0 and 4 of 1.
        Refusals.hold("3: ALL with one too many", Refusals.BUSY, """
            place 0 0 buy.ALL 34 15 = REFUSED
            place 0 0 buy.ALL 33 1 = REFUSED
            place 2 0 buy.ALL 34 8 = REFUSED
            place 3 0 buy.ALL 63 8 = REFUSED
            place 2 0 sell.ALL 30 22 = REFUSED
            place 2 0 sell.ALL 31 1 = REFUSED
            place 1 0 sell.ALL 30 18 = REFUSED
            place 0 0 sell.ALL 1 5 = REFUSED
            """);
        Rows.hold("3: ALL with just so many", Refusals.BUSY + """
            place 0 0 buy.ALL 34 14 = 11
            state 11 = FILLED
            best 0 1 = NOTHING
            """);
        Rows.hold("3: ALL past an order of its own", Refusals.BUSY + """
            place 2 0 buy.ALL 34 7 = 11
            state 11 = FILLED
            state 4 = WITHDRAWN
            left 4 = 7
            state 5 = FILLED
            """);
        Rows.hold("3: ALL that sells, with just so many", Refusals.BUSY + """
            place 2 0 sell.ALL 30 21 = 11
            state 11 = FILLED
            best 0 0 = NOTHING
            """);
        Rows.hold("3: ALL that sells past an order of its own", Refusals.BUSY + """
            place 0 0 sell.ALL 1 4 = 11
            state 2 = WITHDRAWN
            state 3 = FILLED
            """);
    }

    /** The same sentence: what was withdrawn or amended, and the other side, instrument and limits, do not count. */
    private static void allAndWhatDoesNotCount() {
        Refusals.hold("3: ALL in an empty book", RICH + "open 0", """
            place 0 0 buy.ALL 63 1 = REFUSED
            place 0 0 sell.ALL 1 1 = REFUSED
            """);
        String shortOfOne = """
            deposit 0 100000
            deposit 1 100000
            open 0
            open 1
            place 1 0 sell.LIMIT 30 5
            place 1 0 sell.LIMIT 31 5
            place 1 0 sell.LIMIT 29 5
            cancel 1 2
            place 1 1 sell.LIMIT 29 5
            place 1 0 buy.LIMIT 20 5
            amend 1 0 4
            """;
        Refusals.hold("3: ALL and what does not count", shortOfOne, """
            place 0 0 buy.ALL 30 5 = REFUSED
            place 0 0 buy.ALL 31 10 = REFUSED
            """);
        Rows.hold("3: ALL and what counts", shortOfOne + """
            place 0 0 buy.ALL 30 4 = 5
            left 1 = 5
            place 0 0 buy.ALL 31 5 = 6
            best 0 1 = NOTHING
            """);
    }

    /** "of several refusals the one named first is answered": BAD before all others. */
    private static void badComesFirst() {
        Refusals.hold("3: BAD before FULL", Refusals.FILLED_UP, """
            place 5 0 buy.LIMIT 20 1 = BAD
            place 0 2 buy.LIMIT 20 1 = BAD
            place 0 0 12 20 1 = BAD
            place 0 0 buy.LIMIT 20 100 = BAD
            place 0 0 buy.LIMIT 64 1 = BAD
            place 0 0 buy.MARKET 64 0 = BAD
            """);
        Refusals.hold("3: BAD before PHASE", Refusals.BUSY, """
            place 5 1 buy.NOW 20 1 = BAD
            place 0 1 buy.NOW 0 1 = BAD
            place 0 1 sell.ALL 20 0 = BAD
            place 0 1 sell.MARKET 20 100 = BAD
            place 0 1 buy.POST 64 1 = BAD
            """);
        Refusals.hold("3: BAD before RISK", Refusals.BUSY, """
            place 4 0 buy.LIMIT 64 1 = BAD
            place 4 0 buy.LIMIT 20 100 = BAD
            place 4 2 buy.LIMIT 20 1 = BAD
            place 4 0 -1 20 1 = BAD
            """);
        Refusals.hold("3: BAD before REFUSED", Refusals.BUSY, """
            place 0 0 buy.POST 64 1 = BAD
            place 0 0 buy.POST 34 0 = BAD
            place 0 0 buy.ALL 34 100 = BAD
            place 0 0 sell.ALL 0 99 = BAD
            """);
        Refusals.hold("3: BAD before all others", Refusals.FILLED_UP + "close 0", "place 4 0 buy.POST 64 1 = BAD");
    }

    /** The same sentence: FULL before PHASE, RISK and REFUSED. */
    private static void fullComesNext() {
        Refusals.hold("3: FULL before PHASE", Refusals.FILLED_UP + "close 0", """
            place 0 0 buy.NOW 20 1 = FULL
            place 0 0 sell.POST 63 1 = FULL
            """);
        Refusals.hold("3: FULL before RISK", Refusals.FILLED_UP, """
            place 4 0 buy.LIMIT 20 1 = FULL
            place 3 1 sell.NOW 20 99 = FULL
            """);
        Refusals.hold("3: FULL before REFUSED", Refusals.FILLED_UP, """
            place 1 0 buy.POST 40 1 = FULL
            place 1 0 buy.ALL 39 1 = FULL
            """);
        Refusals.hold("3: FULL before the others", Refusals.FILLED_UP + "close 0", "place 4 0 buy.POST 40 1 = FULL");
    }

    /** The same sentence: PHASE before RISK and REFUSED. */
    private static void phaseComesThen() {
        Refusals.hold("3: PHASE before RISK", Refusals.BUSY, """
            place 4 1 buy.NOW 50 1 = PHASE
            place 4 1 sell.MARKET 50 1 = PHASE
            """);
        Refusals.hold("3: PHASE before REFUSED", Refusals.BUSY, """
            place 3 1 buy.POST 45 1 = PHASE
            place 3 1 sell.POST 50 1 = PHASE
            place 3 1 buy.ALL 44 1 = PHASE
            place 3 1 sell.ALL 50 6 = PHASE
            """);
        Refusals.hold("3: PHASE before both", Refusals.BUSY, "place 4 1 buy.POST 45 1 = PHASE");
    }

    /** The same sentence: RISK before REFUSED. */
    private static void riskComesBeforeRefused() {
        Refusals.hold("3: RISK before REFUSED", Refusals.BUSY, """
            place 4 0 buy.POST 34 1 = RISK
            place 4 0 sell.POST 30 1 = RISK
            place 4 0 buy.ALL 33 1 = RISK
            place 4 0 sell.ALL 30 99 = RISK
            """);
        Refusals.hold("3: REFUSED when the money is just enough", Refusals.BUSY + "deposit 4 3", """
            place 4 0 buy.POST 34 1 = REFUSED
            place 4 0 buy.ALL 33 1 = REFUSED
            place 4 0 buy.POST 34 2 = RISK
            """);
    }
}
