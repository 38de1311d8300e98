import java.util.ArrayDeque;
import java.util.Deque;
import java.util.Random;

/** All promises at once: long runs of calls from a fixed seed, each answer held against that of the Model. */
public final class ModelTest {
    private static final int RUNS = 1500;
    private static final int CALLS = 512;
    private static final int TOLD = 25;
    private static final int[] EXTREMES = {Integer.MIN_VALUE, Integer.MAX_VALUE, -1, 120, 64, 100};

    private final Random random;
    private final int spread;
    private final int money;
    private final CallMarket market = new CallMarket();
    private final Model model = new Model();
    private final Deque<String> latest = new ArrayDeque<>();
    private int orders = 0;

    private ModelTest(int seed) {
        random = new Random(seed);
        // Few prices make long queues, many prices make wide books; little money makes refusals.
        spread = random.nextInt(seed % 3 == 0 ? 32 : 4);
        money = seed % 4 == 0 ? 300 : 1000000;
    }

    public static void main(String[] args) {
        for (int seed = 0; seed < RUNS && Check.wrongs() == 0; seed++) {
            new ModelTest(seed).run(seed);
        }
        Check.end();
    }

    private void run(int seed) {
        for (int member = 0; member < 5; member++) {
            hold("deposit", market.deposit(member, money) ? 1 : 0, model.deposit(member, money) ? 1 : 0, member, money);
        }
        for (int call = 5; call < CALLS && Check.wrongs() == 0; call++) {
            if (random.nextInt(2) == 0) {
                change();
            } else {
                look();
            }
        }
        if (Check.wrongs() != 0) {
            System.out.println("seed " + seed + ", the latest calls:");
            latest.forEach(System.out::println);
        }
    }

    private void hold(String name, long got, long want, int... arguments) {
        StringBuilder call = new StringBuilder(name).append('(');
        for (int index = 0; index < arguments.length; index++) {
            call.append(index == 0 ? "" : ", ").append(arguments[index]);
        }
        call.append(')');
        latest.add(call + " = " + want);
        if (latest.size() > TOLD) {
            latest.remove();
        }
        Check.due(call.toString(), got, want);
    }

    /** A number from 0 up to below the bound, and now and then one that is far off. */
    private int mostly(int bound) {
        if (random.nextInt(60) == 0) {
            return EXTREMES[random.nextInt(EXTREMES.length)];
        }
        return random.nextInt(60) == 0 ? bound : random.nextInt(bound);
    }

    private int price() {
        if (random.nextInt(40) == 0) {
            return random.nextInt(66) - 1;
        }
        return 32 - spread + random.nextInt(2 * spread + 1);
    }

    private int order() {
        return mostly(Math.max(1, orders));
    }

    /** The member that most often places the order of this number, so that cancel and amend find what they name. */
    private int owner(int order) {
        return random.nextInt(6) == 0 ? mostly(5) : Math.floorMod(order * 7, 5);
    }

    private void change() {
        int choice = random.nextInt(100);
        if (choice < 55) {
            place();
        } else if (choice < 65) {
            int order = order();
            int member = owner(order);
            hold("cancel", market.cancel(member, order) ? 1 : 0, model.cancel(member, order) ? 1 : 0, member, order);
        } else if (choice < 73) {
            int order = order();
            int member = owner(order);
            int quantity = random.nextInt(20) - 1;
            hold("amend", market.amend(member, order, quantity), model.amend(member, order, quantity),
                member, order, quantity);
        } else if (choice < 81) {
            int instrument = mostly(2);
            hold("open", market.open(instrument), model.open(instrument), instrument);
        } else if (choice < 85) {
            int instrument = mostly(2);
            hold("close", market.close(instrument), model.close(instrument), instrument);
        } else if (choice < 99) {
            int member = mostly(5);
            int amount = random.nextInt(4) == 0 ? random.nextInt(2400001) - 1200000 : random.nextInt(money) - money / 5;
            hold("deposit", market.deposit(member, amount) ? 1 : 0, model.deposit(member, amount) ? 1 : 0,
                member, amount);
        } else {
            hold("settle", market.settle(), model.settle());
        }
    }

    private void place() {
        int member = owner(orders);
        int instrument = mostly(2);
        int how = random.nextInt(3) == 0 ? 10 + random.nextInt(2) : mostly(12);
        int limit = price();
        int quantity = random.nextInt(20) == 0 ? mostly(101) : 1 + random.nextInt(random.nextBoolean() ? 12 : 60);
        int got = market.place(member, instrument, how, limit, quantity);
        hold("place", got, model.place(member, instrument, how, limit, quantity),
            member, instrument, how, limit, quantity);
        orders += got >= 0 ? 1 : 0;
    }

    private void look() {
        int instrument = mostly(2);
        int side = mostly(2);
        int order = order();
        int member = mostly(5);
        switch (random.nextInt(13)) {
            case 0, 1 -> {
                int part = mostly(3);
                hold("indication", market.indication(instrument, part), model.indication(instrument, part),
                    instrument, part);
            }
            case 2 -> hold("best", market.best(instrument, side), model.best(instrument, side), instrument, side);
            case 3 -> {
                int price = price();
                hold("depth", market.depth(instrument, side, price), model.depth(instrument, side, price),
                    instrument, side, price);
            }
            case 4 -> hold("ahead", market.ahead(order), model.ahead(order), order);
            case 5 -> hold("left", market.left(order), model.left(order), order);
            case 6 -> hold("state", market.state(order), model.state(order), order);
            case 7 -> hold("trades", market.trades(), model.trades());
            case 8 -> {
                int k = mostly(Math.max(1, model.trades()));
                int part = mostly(4);
                hold("trade", market.trade(k, part), model.trade(k, part), k, part);
            }
            case 9 -> hold("position", market.position(member, instrument), model.position(member, instrument),
                member, instrument);
            case 10 -> hold("money", market.money(member), model.money(member), member);
            case 11 -> hold("owed", market.owed(member), model.owed(member), member);
            default -> hold("risk", market.risk(member), model.risk(member), member);
        }
    }
}
