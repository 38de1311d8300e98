/** Promises 1, 2 and 16 to 19 at their boundaries: each method holds one sentence of the document. */
public final class MembersBoundaryTest {
    public static void main(String[] args) {
        aNewObject();
        depositGrowsByAmount();
        depositNoSuchMember();
        depositAmountOutOfRange();
        depositLessThanTheRisk();
        depositWithMoneyBelowTheRisk();
        depositOfTheWholeMoney();
        positionOfNone();
        moneyOfNone();
        owedOfNone();
        riskOfNone();
        riskOfWhatRestsAlone();
        Check.end();
    }

    /** "No orders and trades; both instruments are in a CALL." */
    private static void aNewObject() {
        Rows.hold("1: no orders", """
            state 0 = BAD
            left 0 = BAD
            ahead 0 = NOTHING
            cancel 0 0 = false
            amend 0 0 1 = NOTHING
            best 0 0 = NOTHING
            best 0 1 = NOTHING
            best 1 0 = NOTHING
            best 1 1 = NOTHING
            depth 0 0 1 = 0
            depth 1 1 63 = 0
            indication 0 0 = NOTHING
            indication 1 2 = NOTHING
            settle = 0
            """);
        Rows.hold("1: no trades", """
            trades = 0
            trade 0 0 = NOTHING
            trade -1 0 = NOTHING
            """);
        Rows.hold("1: both instruments are in a CALL", """
            close 0 = PHASE
            close 1 = PHASE
            place 0 0 buy.POST 10 1 = PHASE
            place 0 1 buy.POST 10 1 = PHASE
            open 0 = 0
            close 1 = PHASE
            open 1 = 0
            open 0 = PHASE
            open 1 = PHASE
            """);
    }

    /** "The member's money grows by amount." */
    private static void depositGrowsByAmount() {
        Rows.hold("2: each member has its own money", """
            deposit 0 1 = true
            deposit 4 10 = true
            money 0 = 1
            money 1 = 0
            money 3 = 0
            money 4 = 10
            deposit 0 0 = true
            money 0 = 1
            """);
        Rows.hold("2: as much as 511 calls can bring", """
            511 times deposit 2 1000000 = true
            money 2 = 511000000
            """);
    }

    /** "False when there is no such member" */
    private static void depositNoSuchMember() {
        Refusals.hold("2: no such member", Refusals.BUSY, """
            deposit -1 5 = false
            deposit 5 5 = false
            deposit -1 0 = false
            deposit 5 0 = false
            deposit MIN 5 = false
            deposit MAX 5 = false
            """);
    }

    /** "amount is not from -1000000 to 1000000" */
    private static void depositAmountOutOfRange() {
        Rows.hold("2: the last amounts that are taken", """
            deposit 0 1000000 = true
            deposit 0 1000000 = true
            deposit 0 1000000 = true
            deposit 0 -1000000 = true
            money 0 = 2000000
            """);
        Refusals.hold("2: the first amounts that are not", Refusals.BUSY + "5 times deposit 0 1000000", """
            deposit 0 1000001 = false
            deposit 0 -1000001 = false
            deposit 0 MAX = false
            deposit 0 MIN = false
            """);
    }

    /** "amount is below 0 and the money would be less than the member's risk" */
    private static void depositLessThanTheRisk() {
        // Member 0 has 1000 and a risk of 84, member 1 of 43, member 4 has neither.
        Refusals.hold("2: one less than the risk", Refusals.BUSY, """
            deposit 0 -917 = false
            deposit 0 -1000 = false
            deposit 0 -1000000 = false
            deposit 1 -958 = false
            deposit 4 -1 = false
            """);
        Rows.hold("2: just the risk", Refusals.BUSY + """
            deposit 0 -916 = true
            money 0 = 84
            risk 0 = 84
            deposit 0 -1 = false
            deposit 1 -957 = true
            money 1 = 43
            deposit 4 0 = true
            money 4 = 0
            """);
    }

    /** The same sentence where a debt has put the money below the risk: only an amount below 0 is refused. */
    private static void depositWithMoneyBelowTheRisk() {
        String debt = """
            deposit 0 30
            deposit 1 30
            place 0 0 buy.LIMIT 2 10
            place 1 0 sell.LIMIT 2 10
            open 0
            settle
            """;
        Refusals.hold("2: below 0 while below the risk", debt, """
            deposit 0 -1 = false
            deposit 0 -10 = false
            """);
        Rows.hold("2: 0 and more while below the risk", debt + """
            money 0 = 10
            risk 0 = 30
            deposit 0 0 = true
            deposit 0 1 = true
            money 0 = 11
            deposit 0 19 = true
            deposit 0 -1 = false
            deposit 0 1 = true
            deposit 0 -1 = true
            money 0 = 30
            """);
    }

    /** "the money would be less than the member's risk", where that is 0 or has just become less. */
    private static void depositOfTheWholeMoney() {
        Rows.hold("2: without a risk the money can go down to 0", """
            deposit 3 7 = true
            deposit 3 -8 = false
            deposit 3 -7 = true
            money 3 = 0
            deposit 3 -1 = false
            """);
        Rows.hold("2: a risk that has gone counts no more", """
            deposit 3 6
            place 3 0 buy.LIMIT 1 2 = 0
            deposit 3 -1 = false
            amend 3 0 1 = 0
            deposit 3 -4 = false
            deposit 3 -3 = true
            cancel 3 0 = true
            deposit 3 -3 = true
            money 3 = 0
            """);
    }

    /** "The position; 0 when there is no such member or instrument." */
    private static void positionOfNone() {
        String traded = everyMemberTraded();
        Rows.hold("16: the first and the last", traded + """
            position 0 0 = 20
            position 4 0 = -8
            position 0 1 = -12
            position 4 1 = 4
            """);
        Refusals.hold("16: none", traded, """
            position -1 0 = 0
            position 5 0 = 0
            position 0 -1 = 0
            position 0 2 = 0
            position 4 2 = 0
            position 5 2 = 0
            position MIN 0 = 0
            position MAX 1 = 0
            position 0 MIN = 0
            position 0 MAX = 0
            """);
    }

    /** "The member's money; 0 when there is no such member." */
    private static void moneyOfNone() {
        String traded = everyMemberTraded();
        Rows.hold("17: the first and the last", traded + """
            money 0 = 1000
            money 4 = 1004
            """);
        Refusals.hold("17: none", traded, """
            money -1 = 0
            money 5 = 0
            money MIN = 0
            money MAX = 0
            """);
    }

    /** "What it is owed; 0 when there is no such member." */
    private static void owedOfNone() {
        String traded = everyMemberTraded();
        Rows.hold("18: the first and the last", traded + """
            owed 0 = -360
            owed 1 = 40
            owed 4 = 160
            """);
        Refusals.hold("18: none", traded, """
            owed -1 = 0
            owed 5 = 0
            owed MIN = 0
            owed MAX = 0
            """);
    }

    /** "Its risk; 0 when there is no such member." */
    private static void riskOfNone() {
        String traded = everyMemberTraded();
        Rows.hold("19: the first and the last", traded + """
            risk 0 = 120
            risk 4 = 44
            """);
        Refusals.hold("19: none", traded, """
            risk -1 = 0
            risk 5 = 0
            risk MIN = 0
            risk MAX = 0
            """);
    }

    /** "the sum over both instruments of R max(|P + B|, |P - S|)": the two terms just apart and just alike. */
    private static void riskOfWhatRestsAlone() {
        Rows.hold("19: the greater of both terms", """
            deposit 0 1000
            risk 0 = 0
            place 0 0 buy.LIMIT 10 5 = 0
            risk 0 = 15
            place 0 0 sell.LIMIT 20 4 = 1
            risk 0 = 15
            place 0 0 sell.LIMIT 20 1 = 2
            risk 0 = 15
            place 0 0 sell.LIMIT 20 1 = 3
            risk 0 = 18
            place 0 1 sell.LIMIT 20 1 = 4
            risk 0 = 23
            place 0 1 buy.ICEBERG 10 9 = 5
            risk 0 = 63
            """);
        Rows.hold("19: with a position, what lies over on the other side", Refusals.BUSY + """
            position 0 0 = 11
            cancel 0 2 = true
            risk 0 = 33
            place 0 0 sell.LIMIT 50 21 = 11
            risk 0 = 33
            place 0 0 sell.LIMIT 50 1 = 12
            risk 0 = 33
            place 0 0 sell.LIMIT 50 1 = 13
            risk 0 = 36
            place 0 0 buy.LIMIT 20 1 = 14
            risk 0 = 36
            place 0 0 buy.LIMIT 20 1 = 15
            risk 0 = 39
            settle
            risk 0 = 33
            """);
    }

    /** Member 0 buys 2, 4, 6 and 8 of instrument 0 at 30 and sells 1, 3, 4 and 4 of instrument 1 at 20. */
    private static String everyMemberTraded() {
        StringBuilder rows = new StringBuilder();
        for (int member = 0; member < 5; member++) {
            rows.append("deposit ").append(member).append(" 100").append(member).append('\n');
        }
        return rows + """
            open 0
            open 1
            place 0 0 buy.LIMIT 30 20
            place 1 0 sell.LIMIT 30 2
            place 2 0 sell.LIMIT 30 4
            place 3 0 sell.LIMIT 30 6
            place 4 0 sell.LIMIT 30 8
            place 0 1 sell.LIMIT 20 12
            place 1 1 buy.LIMIT 20 1
            place 2 1 buy.LIMIT 20 3
            place 3 1 buy.LIMIT 20 4
            place 4 1 buy.LIMIT 20 4
            """;
    }
}
