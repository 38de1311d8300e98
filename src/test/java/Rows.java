import java.util.HashMap;
import java.util.Map;

/**
 * A new object and the calls on it, written as rows such as "place 0 1 buy.POST 30 5 = REFUSED": a call with its
 * arguments and the answer that is due. A row without an answer is only carried out, and "9 times" before a row
 * repeats it. More calls than the document allows an object are a fault of the test.
 */
final class Rows {
    private static final int MOST_CALLS = 512;
    private static final Map<String, Integer> NAMES = names();

    private final CallMarket market = new CallMarket();
    private final String title;
    private int calls = 0;

    Rows(String title) {
        this.title = title;
    }

    /** Holds one run of calls on a new object. */
    static void hold(String title, String rows) {
        new Rows(title).run(rows);
    }

    Rows run(String rows) {
        for (String row : rows.split("\n")) {
            if (!row.isBlank()) {
                runOne(row.strip());
            }
        }
        return this;
    }

    private void runOne(String row) {
        int at = row.indexOf(" times ");
        int times = at < 0 ? 1 : Integer.parseInt(row.substring(0, at));
        String[] halves = (at < 0 ? row : row.substring(at + 7)).split(" = ");
        for (int time = 0; time < times; time++) {
            long got = answer(halves[0].strip());
            if (halves.length == 2) {
                Check.due(title + " | " + halves[0].strip(), got, number(halves[1].strip()));
            }
        }
    }

    long answer(String call) {
        calls++;
        if (calls > MOST_CALLS) {
            throw new IllegalStateException(title + ": a test with more calls than are promised");
        }
        String[] words = call.split(" +");
        int[] a = new int[words.length - 1];
        for (int index = 0; index < a.length; index++) {
            a[index] = number(words[index + 1]);
        }
        return switch (words[0] + a.length) {
            case "deposit2" -> market.deposit(a[0], a[1]) ? 1 : 0;
            case "place5" -> market.place(a[0], a[1], a[2], a[3], a[4]);
            case "cancel2" -> market.cancel(a[0], a[1]) ? 1 : 0;
            case "amend3" -> market.amend(a[0], a[1], a[2]);
            case "open1" -> market.open(a[0]);
            case "close1" -> market.close(a[0]);
            case "indication2" -> market.indication(a[0], a[1]);
            case "best2" -> market.best(a[0], a[1]);
            case "depth3" -> market.depth(a[0], a[1], a[2]);
            case "ahead1" -> market.ahead(a[0]);
            case "left1" -> market.left(a[0]);
            case "state1" -> market.state(a[0]);
            case "trades0" -> market.trades();
            case "trade2" -> market.trade(a[0], a[1]);
            case "position2" -> market.position(a[0], a[1]);
            case "money1" -> market.money(a[0]);
            case "owed1" -> market.owed(a[0]);
            case "risk1" -> market.risk(a[0]);
            case "settle0" -> market.settle();
            default -> throw new IllegalArgumentException(call);
        };
    }

    private static int number(String word) {
        Integer named = NAMES.get(word);
        return named != null ? named : Integer.parseInt(word);
    }

    private static Map<String, Integer> names() {
        Map<String, Integer> names = new HashMap<>();
        names.put("false", 0);
        names.put("true", 1);
        names.put("MIN", Integer.MIN_VALUE);
        names.put("MAX", Integer.MAX_VALUE);
        // The numbers of the document, not the class's own: a wrong constant must not excuse a wrong answer.
        String[] refusals = {"BAD", "FULL", "PHASE", "RISK", "REFUSED", "NOTHING"};
        for (int index = 0; index < refusals.length; index++) {
            names.put(refusals[index], -1 - index);
        }
        String[] states = {"RESTING", "FILLED", "WITHDRAWN"};
        for (int index = 0; index < states.length; index++) {
            names.put(states[index], index);
        }
        String[] kinds = {"LIMIT", "NOW", "ALL", "MARKET", "POST", "ICEBERG"};
        for (int kind = 0; kind < kinds.length; kind++) {
            names.put("buy." + kinds[kind], 2 * kind);
            names.put("sell." + kinds[kind], 2 * kind + 1);
        }
        return names;
    }
}
