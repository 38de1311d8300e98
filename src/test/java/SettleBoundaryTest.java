/** Promise 20 at its boundaries: each method holds one part of its sentences. */
public final class SettleBoundaryTest {
    private static final String FIVE = """
        deposit 0 1000
        deposit 1 1000
        deposit 2 1000
        deposit 3 1000
        deposit 4 1000
        open 0
        open 1
        """;

    public static void main(String[] args) {
        withdrawsAllThatRests();
        bothInACall();
        moneyGrowsByWhatIsOwed();
        moneyBelowNought();
        answersHowMany();
        answersAfterEvenTrades();
        settleTwice();
        whatStays();
        Check.end();
    }

    /** "all resting orders are withdrawn" */
    private static void withdrawsAllThatRests() {
        Rows.hold("20: with orders in both instruments", Refusals.BUSY + """
            settle = 4
            state 0 = FILLED
            state 2 = WITHDRAWN
            state 3 = WITHDRAWN
            state 4 = WITHDRAWN
            state 5 = WITHDRAWN
            state 7 = FILLED
            state 8 = WITHDRAWN
            state 9 = WITHDRAWN
            state 10 = WITHDRAWN
            left 2 = 17
            left 4 = 7
            left 7 = 0
            best 0 0 = NOTHING
            best 0 1 = NOTHING
            best 1 0 = NOTHING
            best 1 1 = NOTHING
            depth 0 0 30 = 0
            risk 2 = 6
            """);
        Rows.hold("20: with as many as there can be", FIVE + """
            40 times place 0 0 buy.LIMIT 20 1
            40 times place 1 0 sell.LIMIT 40 1
            40 times place 2 1 buy.LIMIT 20 1
            settle = 0
            state 0 = WITHDRAWN
            state 39 = WITHDRAWN
            state 40 = WITHDRAWN
            state 119 = WITHDRAWN
            depth 0 0 20 = 0
            depth 0 1 40 = 0
            depth 1 0 20 = 0
            risk 0 = 0
            risk 2 = 0
            """);
        Rows.hold("20: with none", "settle = 0\nsettle = 0\nstate 0 = BAD");
    }

    /** "both instruments are in a CALL" */
    private static void bothInACall() {
        for (int phases = 0; phases < 4; phases++) {
            String opened = (phases % 2 == 1 ? "open 0\n" : "") + (phases / 2 == 1 ? "open 1\n" : "");
            Rows.hold("20: both in a CALL, whatever they were", opened + """
                settle = 0
                close 0 = PHASE
                close 1 = PHASE
                open 0 = 0
                open 1 = 0
                """);
        }
    }

    /** "every member's money grows by what it is owed, and this is 0 then" */
    private static void moneyGrowsByWhatIsOwed() {
        Rows.hold("20: the first and the last member", FIVE + """
            place 0 0 buy.LIMIT 30 3
            place 4 0 sell.LIMIT 30 3
            owed 0 = -90
            owed 4 = 90
            settle = 2
            money 0 = 910
            money 1 = 1000
            money 4 = 1090
            owed 0 = 0
            owed 4 = 0
            """);
    }

    /** The same sentence where a member owes just what it has, and more. */
    private static void moneyBelowNought() {
        String scene = """
            deposit 0 30
            deposit 1 30
            place 0 0 buy.LIMIT 3 10
            place 1 0 sell.LIMIT 3 10
            open 0
            """;
        Rows.hold("20: to just 0", scene + "settle = 2\nmoney 0 = 0\nmoney 1 = 60");
        Rows.hold("20: to below 0", scene.replace("LIMIT 3", "LIMIT 4") + "settle = 2\nmoney 0 = -10\nmoney 1 = 70");
    }

    /** "Answers how many members were owed or owed something." */
    private static void answersHowMany() {
        Rows.hold("20: none", FIVE + "settle = 0");
        Rows.hold("20: 1 at 1 is something", FIVE + "place 0 0 buy.LIMIT 1 1\nplace 1 0 sell.LIMIT 1 1\nsettle = 2");
        StringBuilder rows = new StringBuilder(FIVE + "place 0 0 buy.LIMIT 30 40\n");
        for (int member = 1; member < 5; member++) {
            rows.append("place ").append(member).append(" 0 sell.LIMIT 30 1\n");
            Rows.hold("20: " + (member + 1) + " members", rows + "settle = " + (member + 1));
        }
    }

    /** "were owed or owed something": not those whose trades come to 0. */
    private static void answersAfterEvenTrades() {
        String bought = FIVE + """
            place 0 0 buy.LIMIT 30 6
            place 1 0 sell.LIMIT 30 6
            """;
        Rows.hold("20: one with itself", FIVE + """
            settle
            place 0 0 buy.LIMIT 30 6
            place 0 0 sell.LIMIT 30 6
            open 0 = 6
            settle = 0
            """);
        Rows.hold("20: back at the same price", bought + """
            place 1 0 buy.LIMIT 30 6
            place 0 0 sell.LIMIT 30 6
            settle = 0
            """);
        Rows.hold("20: back at one price more", bought + """
            place 1 0 buy.LIMIT 31 6
            place 0 0 sell.LIMIT 31 6
            position 0 0 = 0
            settle = 2
            money 0 = 1006
            money 1 = 994
            """);
        Rows.hold("20: even over both instruments", bought + """
            place 1 1 buy.LIMIT 60 3
            place 0 1 sell.LIMIT 60 3
            position 0 0 = 6
            owed 0 = 0
            settle = 0
            """);
        Rows.hold("20: even for the one between", bought + """
            place 1 0 buy.LIMIT 30 6
            place 2 0 sell.LIMIT 30 6
            settle = 2
            money 1 = 1000
            """);
    }

    /** "and this is 0 then": the second time none is owed anything. */
    private static void settleTwice() {
        Rows.hold("20: once more", Refusals.BUSY + """
            settle = 4
            money 0 = 602
            settle = 0
            money 0 = 602
            money 1 = 1240
            """);
        Refusals.changesNothing("20: once more", Refusals.BUSY + "settle", "settle = 0");
    }

    /** What no sentence says that the end of a day changes: positions, trades, numbers and references. */
    private static void whatStays() {
        Rows.hold("20: what stays", Refusals.BUSY + """
            settle = 4
            position 0 0 = 11
            risk 0 = 33
            trades = 3
            trade 2 2 = 34
            deposit 4 1000
            place 4 0 buy.LIMIT 63 1 = 11
            place 4 0 sell.LIMIT 1 1 = 12
            indication 0 0 = 34
            place 4 1 buy.LIMIT 63 1 = 13
            place 4 1 sell.LIMIT 1 1 = 14
            indication 1 0 = 32
            """);
    }
}
