import java.util.ArrayList;
import java.util.HashMap;
import java.util.List;
import java.util.Map;

/**
 * The document once more, as slowly and literally as it reads, for ModelTest to hold the program against.
 * It shares no code and no way of keeping things with the program: queues are lists, sums are taken anew.
 */
final class Model {
    private static final int BAD = -1;
    private static final int FULL = -2;
    private static final int PHASE = -3;
    private static final int RISK = -4;
    private static final int REFUSED = -5;
    private static final int NOTHING = -6;

    private static final class Item {
        int number;
        int member;
        int instrument;
        boolean buys;
        int kind;
        int limit;
        int left;
        int shows;
        String state = "new";
    }

    private final List<Item> all = new ArrayList<>();
    private final Map<String, List<Item>> queues = new HashMap<>();
    private final List<int[]> deals = new ArrayList<>();
    private final long[] money = new long[5];
    private final long[] owed = new long[5];
    private final int[][] position = new int[5][2];
    private final boolean[] open = new boolean[2];
    private final int[] reference = {32, 32};

    private List<Item> queue(int instrument, boolean buys, int price) {
        return queues.computeIfAbsent(instrument + (buys ? "b" : "s") + price, key -> new ArrayList<>());
    }

    private List<Item> queueOf(Item item) {
        return queue(item.instrument, item.buys, item.limit);
    }

    private static boolean good(int price, Item item) {
        return item.kind == 3 || (item.buys ? price <= item.limit : price >= item.limit);
    }

    private static boolean within(int number, int least, int greatest) {
        return number >= least && number <= greatest;
    }

    private List<Item> resting(int instrument, boolean buys) {
        List<Item> found = new ArrayList<>();
        for (int step = 1; step <= 63; step++) {
            found.addAll(queue(instrument, buys, buys ? 64 - step : step));
        }
        return found;
    }

    private int restingOf(int member, int instrument, boolean buys) {
        return resting(instrument, buys).stream().filter(i -> i.member == member).mapToInt(i -> i.left).sum();
    }

    private long riskIf(int member, int instrument, boolean buys, int more) {
        long total = 0;
        for (int each = 0; each < 2; each++) {
            long p = position[member][each];
            long b = restingOf(member, each, true) + (each == instrument && buys ? more : 0);
            long s = restingOf(member, each, false) + (each == instrument && !buys ? more : 0);
            total += (each == 0 ? 3 : 5) * Math.max(Math.abs(p + b), Math.abs(p - s));
        }
        return total;
    }

    boolean deposit(int member, int amount) {
        if (!within(member, 0, 4) || !within(amount, -1000000, 1000000)
                || (amount < 0 && money[member] + amount < risk(member))) {
            return false;
        }
        money[member] += amount;
        return true;
    }

    int place(int member, int instrument, int how, int limit, int quantity) {
        int kind = Math.floorDiv(how, 2);
        if (!within(member, 0, 4) || !within(instrument, 0, 1) || !within(kind, 0, 5) || !within(quantity, 1, 99)) {
            return BAD;
        }
        if (kind != 3 && !within(limit, 1, 63)) {
            return BAD;
        }
        if (all.size() == 120) {
            return FULL;
        }
        if (!open[instrument] && kind != 0 && kind != 5) {
            return PHASE;
        }
        Item item = new Item();
        item.number = all.size();
        item.member = member;
        item.instrument = instrument;
        item.buys = how % 2 == 0;
        item.kind = kind;
        item.limit = limit;
        item.left = quantity;
        if (riskIf(member, instrument, item.buys, quantity) > money[member]) {
            return RISK;
        }
        List<Item> others = resting(instrument, !item.buys);
        others.removeIf(other -> !good(other.limit, item));
        if (kind == 4 && !others.isEmpty()) {
            return REFUSED;
        }
        if (kind == 2 && others.stream().filter(o -> o.member != member).mapToInt(o -> o.left).sum() < quantity) {
            return REFUSED;
        }
        all.add(item);
        if (open[instrument]) {
            meet(item);
        }
        rest(item);
        return item.number;
    }

    private void meet(Item item) {
        while (item.left > 0) {
            List<Item> others = resting(item.instrument, !item.buys);
            if (others.isEmpty() || !good(others.get(0).limit, item)) {
                return;
            }
            Item other = others.get(0);
            if (other.member == item.member) {
                queueOf(other).remove(other);
                other.state = "withdrawn";
                continue;
            }
            int n = Math.min(item.left, other.kind == 5 ? other.shows : other.left);
            other.shows -= n;
            deal(item.buys ? item : other, item.buys ? other : item, other.limit, n);
            if (other.left == 0) {
                queueOf(other).remove(other);
                other.state = "filled";
            } else if (other.kind == 5 && other.shows == 0) {
                queueOf(other).remove(other);
                queueOf(other).add(other);
                other.shows = Math.min(5, other.left);
            }
        }
    }

    private void rest(Item item) {
        if (item.left == 0) {
            item.state = "filled";
        } else if (item.kind == 1 || item.kind == 3) {
            item.state = "withdrawn";
        } else {
            item.state = "resting";
            item.shows = Math.min(5, item.left);
            queueOf(item).add(item);
        }
    }

    private void deal(Item buyer, Item seller, int price, int n) {
        buyer.left -= n;
        seller.left -= n;
        position[buyer.member][buyer.instrument] += n;
        position[seller.member][buyer.instrument] -= n;
        owed[buyer.member] -= (long) n * price;
        owed[seller.member] += (long) n * price;
        reference[buyer.instrument] = price;
        deals.add(new int[] {buyer.number, seller.number, price, n});
    }

    private Item restingOrder(int number) {
        return within(number, 0, all.size() - 1) && all.get(number).state.equals("resting") ? all.get(number) : null;
    }

    boolean cancel(int member, int order) {
        Item item = restingOrder(order);
        if (item == null || item.member != member) {
            return false;
        }
        queueOf(item).remove(item);
        item.state = "withdrawn";
        return true;
    }

    int amend(int member, int order, int quantity) {
        Item item = restingOrder(order);
        if (item == null || item.member != member) {
            return NOTHING;
        }
        if (!within(quantity, 1, item.left - 1)) {
            return BAD;
        }
        item.left = quantity;
        if (item.shows > quantity) {
            item.shows = quantity;
        }
        return 0;
    }

    /** The call price with V and B less S at it, or null. */
    private int[] call(int instrument) {
        int[] b = new int[64];
        int[] s = new int[64];
        List<Item> buyers = resting(instrument, true);
        List<Item> sellers = resting(instrument, false);
        List<Integer> kept = new ArrayList<>();
        for (int each = 1; each <= 63; each++) {
            int q = each;
            b[q] = buyers.stream().filter(i -> i.limit >= q).mapToInt(i -> i.left).sum();
            s[q] = sellers.stream().filter(i -> i.limit <= q).mapToInt(i -> i.left).sum();
            kept.add(q);
        }
        int v = kept.stream().mapToInt(q -> Math.min(b[q], s[q])).max().getAsInt();
        if (v == 0) {
            return null;
        }
        kept.removeIf(q -> Math.min(b[q], s[q]) != v);
        int difference = kept.stream().mapToInt(q -> Math.abs(b[q] - s[q])).min().getAsInt();
        kept.removeIf(q -> Math.abs(b[q] - s[q]) != difference);
        int price = kept.get(0);
        if (kept.stream().allMatch(q -> b[q] > s[q])) {
            price = kept.get(kept.size() - 1);
        } else if (!kept.stream().allMatch(q -> s[q] > b[q])) {
            for (int q : kept) {
                if (Math.abs(q - reference[instrument]) < Math.abs(price - reference[instrument])) {
                    price = q;
                }
            }
        }
        return new int[] {price, v, b[price] - s[price]};
    }

    int open(int instrument) {
        if (!within(instrument, 0, 1)) {
            return BAD;
        }
        if (open[instrument]) {
            return PHASE;
        }
        int[] call = call(instrument);
        open[instrument] = true;
        if (call == null) {
            return 0;
        }
        List<Item> buyers = resting(instrument, true);
        buyers.removeIf(i -> i.limit < call[0]);
        List<Item> sellers = resting(instrument, false);
        sellers.removeIf(i -> i.limit > call[0]);
        List<Item> traded = new ArrayList<>();
        int total = 0;
        while (!buyers.isEmpty() && !sellers.isEmpty()) {
            Item buyer = buyers.get(0);
            Item seller = sellers.get(0);
            int n = Math.min(buyer.left, seller.left);
            deal(buyer, seller, call[0], n);
            total += n;
            traded.add(buyer);
            traded.add(seller);
            buyers.removeIf(i -> i.left == 0);
            sellers.removeIf(i -> i.left == 0);
        }
        for (Item item : traded) {
            item.shows = Math.min(5, item.left);
            if (item.left == 0) {
                item.state = "filled";
                queueOf(item).remove(item);
            }
        }
        return total;
    }

    int close(int instrument) {
        if (!within(instrument, 0, 1)) {
            return BAD;
        }
        if (!open[instrument]) {
            return PHASE;
        }
        open[instrument] = false;
        return 0;
    }

    int indication(int instrument, int part) {
        if (!within(instrument, 0, 1)) {
            return BAD;
        }
        int[] call = call(instrument);
        if (call == null) {
            return NOTHING;
        }
        return within(part, 0, 2) ? call[part] : BAD;
    }

    int best(int instrument, int side) {
        if (!within(instrument, 0, 1) || !within(side, 0, 1)) {
            return BAD;
        }
        List<Item> found = resting(instrument, side == 0);
        return found.isEmpty() ? NOTHING : found.get(0).limit;
    }

    int depth(int instrument, int side, int price) {
        if (!within(instrument, 0, 1) || !within(side, 0, 1) || !within(price, 1, 63)) {
            return BAD;
        }
        return queue(instrument, side == 0, price).stream().mapToInt(Model::shown).sum();
    }

    private static int shown(Item item) {
        return item.kind == 5 ? item.shows : item.left;
    }

    int ahead(int order) {
        Item item = restingOrder(order);
        if (item == null) {
            return NOTHING;
        }
        List<Item> queue = queueOf(item);
        return queue.subList(0, queue.indexOf(item)).stream().mapToInt(Model::shown).sum();
    }

    int left(int order) {
        return within(order, 0, all.size() - 1) ? all.get(order).left : BAD;
    }

    int state(int order) {
        if (!within(order, 0, all.size() - 1)) {
            return BAD;
        }
        return List.of("resting", "filled", "withdrawn").indexOf(all.get(order).state);
    }

    int trades() {
        return deals.size();
    }

    int trade(int k, int part) {
        if (!within(part, 0, 3)) {
            return BAD;
        }
        return within(k, Math.max(0, deals.size() - 100), deals.size() - 1) ? deals.get(k)[part] : NOTHING;
    }

    int position(int member, int instrument) {
        return within(member, 0, 4) && within(instrument, 0, 1) ? position[member][instrument] : 0;
    }

    long money(int member) {
        return within(member, 0, 4) ? money[member] : 0;
    }

    long owed(int member) {
        return within(member, 0, 4) ? owed[member] : 0;
    }

    long risk(int member) {
        return within(member, 0, 4) ? riskIf(member, 0, true, 0) : 0;
    }

    int settle() {
        for (Item item : all) {
            if (item.state.equals("resting")) {
                item.state = "withdrawn";
            }
        }
        queues.clear();
        open[0] = false;
        open[1] = false;
        int count = 0;
        for (int member = 0; member < 5; member++) {
            count += owed[member] == 0 ? 0 : 1;
            money[member] += owed[member];
            owed[member] = 0;
        }
        return count;
    }
}
