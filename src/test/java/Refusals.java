import java.util.ArrayList;
import java.util.List;

/**
 * "A call that is refused changes nothing": the same scene is played on two new objects, one of them is asked what it
 * must refuse, and from then on both must answer alike, whatever is looked at and whatever is done next.
 */
final class Refusals {
    /**
     * Instrument 0 is OPEN with ICEBERGs that show 2 of 17 and 3 of 7, its reference is 34; instrument 1 is in a CALL
     * with a call price. Orders 0, 1, 6 and 7 are filled, 10 is withdrawn, the others rest. Member 4 has no money.
     */
    static final String BUSY = """
        deposit 0 1000
        deposit 1 1000
        deposit 2 1000
        deposit 3 1000
        place 0 0 buy.LIMIT 40 6
        place 1 0 sell.LIMIT 40 6
        open 0
        place 0 0 buy.ICEBERG 30 20
        place 1 0 buy.LIMIT 30 4
        place 2 0 sell.ICEBERG 34 9
        place 3 0 sell.LIMIT 34 7
        place 3 0 sell.NOW 30 3
        place 0 0 buy.NOW 34 2
        place 1 1 buy.LIMIT 50 5
        place 2 1 sell.ICEBERG 45 8
        place 0 1 sell.LIMIT 45 2
        cancel 0 10
        """;

    /** No order can be accepted any more; both instruments are OPEN, and there were more than 100 trades. */
    static final String FILLED_UP = """
        deposit 0 100000
        deposit 1 100000
        deposit 2 100000
        open 0
        open 1
        place 0 0 buy.ICEBERG 30 99
        place 1 0 sell.LIMIT 30 97
        place 0 0 buy.ICEBERG 31 99
        place 1 0 sell.LIMIT 31 98
        place 0 1 sell.ICEBERG 32 99
        place 2 1 buy.LIMIT 32 97
        place 0 1 sell.ICEBERG 31 99
        place 2 1 buy.LIMIT 31 98
        place 0 1 sell.ICEBERG 30 99
        place 2 1 buy.LIMIT 30 98
        place 0 1 sell.ICEBERG 29 99
        place 2 1 buy.LIMIT 29 98
        54 times place 2 0 sell.LIMIT 40 1
        54 times place 1 1 buy.LIMIT 20 1
        """;

    private static final String[] DEEDS = {
        "place 1 0 buy.POST 40 1", "place 1 1 buy.POST 50 1", "place 3 0 sell.MARKET 0 4", "place 3 0 buy.MARKET 0 4",
        "place 3 1 sell.LIMIT 30 3", "cancel 1 3", "amend 2 4 2", "open 0", "open 1", "close 0", "close 1",
        "deposit 4 700", "place 4 0 sell.LIMIT 1 9", "place 4 0 buy.LIMIT 63 9", "indication 0 0", "open 0", "open 1",
        "place 3 0 sell.ICEBERG 20 33", "place 3 1 buy.ICEBERG 60 33", "best 0 0", "best 0 1", "best 1 0", "best 1 1",
        "trades", "owed 0", "owed 1", "owed 2", "owed 3", "owed 4", "settle", "deposit 4 -1", "money 4", "risk 4",
        "place 4 0 buy.LIMIT 63 1", "place 4 0 sell.LIMIT 1 1", "indication 0 0", "place 4 1 buy.LIMIT 63 1",
        "place 4 1 sell.LIMIT 1 1", "indication 1 0", "open 0", "open 1", "settle", "deposit 0 -50", "money 0"};

    // The reference of each instrument is the call price of one to buy at any price and one to sell at any.
    private static final String[] REFERENCES = {
        "settle", "deposit 4 1000", "place 4 0 buy.LIMIT 63 1", "place 4 0 sell.LIMIT 1 1", "indication 0 0",
        "place 4 1 buy.LIMIT 63 1", "place 4 1 sell.LIMIT 1 1", "indication 1 0"};

    private Refusals() {
    }

    /** Each row is refused in the scene, is refused once more at once, and has changed nothing. */
    static void hold(String title, String scene, String rows) {
        for (String row : rows.split("\n")) {
            if (!row.isBlank()) {
                new Rows(title).run(scene).run(row).run(row);
                changesNothing(title, scene, row.strip());
            }
        }
    }

    static void changesNothing(String title, String scene, String row) {
        List<String> accounts = accounts();
        List<String> orders = orders();
        compare(title, scene, row, accounts);
        compare(title, scene, row, queues());
        compare(title, scene, row, orders);
        compare(title, scene, row, tradesFrom(0));
        compare(title, scene, row, tradesFrom((int) new Rows(title).run(scene).answer("trades") - 50));
        compare(title, scene, row, List.of(REFERENCES));
        List<String> deeds = new ArrayList<>(List.of(DEEDS));
        deeds.addAll(accounts);
        compare(title, scene, row, deeds);
        List<String> deedsSeenByOrders = new ArrayList<>(List.of(DEEDS).subList(0, 9));
        deedsSeenByOrders.addAll(orders.subList(0, 120));
        compare(title, scene, row, deedsSeenByOrders);
    }

    private static void compare(String title, String scene, String row, List<String> calls) {
        Rows spared = new Rows(title).run(scene);
        Rows asked = new Rows(title).run(scene).run(row);
        for (String call : calls) {
            Check.due(title + " | " + row + ", and then " + call, asked.answer(call), spared.answer(call));
        }
    }

    private static List<String> accounts() {
        List<String> calls = new ArrayList<>(List.of("trades"));
        for (int member = 0; member < 5; member++) {
            calls.add("money " + member);
            calls.add("owed " + member);
            calls.add("risk " + member);
            calls.add("position " + member + " 0");
            calls.add("position " + member + " 1");
        }
        for (int instrument = 0; instrument < 2; instrument++) {
            for (int part = 0; part < 3; part++) {
                calls.add("indication " + instrument + " " + part);
            }
        }
        return calls;
    }

    private static List<String> queues() {
        List<String> calls = new ArrayList<>();
        for (int instrument = 0; instrument < 2; instrument++) {
            for (int side = 0; side < 2; side++) {
                calls.add("best " + instrument + " " + side);
                for (int price = 1; price <= 63; price++) {
                    calls.add("depth " + instrument + " " + side + " " + price);
                }
            }
        }
        return calls;
    }

    private static List<String> orders() {
        List<String> calls = new ArrayList<>();
        for (int order = 0; order <= 120; order++) {
            calls.add("left " + order);
            calls.add("state " + order);
            calls.add("ahead " + order);
        }
        return calls;
    }

    private static List<String> tradesFrom(int first) {
        List<String> calls = new ArrayList<>();
        for (int k = first; k <= first + 50; k++) {
            for (int part = 0; part < 4; part++) {
                calls.add("trade " + k + " " + part);
            }
        }
        return calls;
    }
}
