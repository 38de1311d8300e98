import java.util.Arrays;

/** A market of two instruments with continuous trading and call auctions, as ../shared/DOC.md promises it. */
public final class CallMarket {
    public static final int BAD = -1;
    public static final int FULL = -2;
    public static final int PHASE = -3;
    public static final int RISK = -4;
    public static final int REFUSED = -5;
    public static final int NOTHING = -6;

    private static final int MEMBERS = 5;
    private static final int INSTRUMENTS = 2;
    private static final int LEAST_PRICE = 1;
    private static final int GREATEST_PRICE = 63;
    private static final int FIRST_REFERENCE = 32;
    private static final int MOST_ORDERS = 120;
    private static final int MOST_QUANTITY = 99;
    private static final int MOST_DEPOSIT = 1000000;
    private static final int ICEBERG_SHOWS = 5;
    private static final int TRADES_KEPT = 100;
    private static final int TRADE_PARTS = 4;
    private static final int[] RISK_RATES = {3, 5};

    private static final int BUY = 0;
    private static final int SELL = 1;

    private static final int KIND_LIMIT = 0;
    private static final int KIND_NOW = 1;
    private static final int KIND_ALL = 2;
    private static final int KIND_MARKET = 3;
    private static final int KIND_POST = 4;
    private static final int KIND_ICEBERG = 5;
    private static final int KINDS = 6;

    private static final int RESTING = 0;
    private static final int FILLED = 1;
    private static final int WITHDRAWN = 2;

    // Zero is no price, so it can stand for the lack of one.
    private static final int NO_PRICE = 0;

    private final Account[] accounts = new Account[MEMBERS];
    private final Book[] books = new Book[INSTRUMENTS];
    private final Order[] orders = new Order[MOST_ORDERS];
    private final Tape tape = new Tape();
    private final Scale scale = new Scale();
    private int orderCount = 0;

    public CallMarket() {
        for (int member = 0; member < MEMBERS; member++) {
            accounts[member] = new Account();
        }
        for (int instrument = 0; instrument < INSTRUMENTS; instrument++) {
            books[instrument] = new Book();
        }
    }

    public boolean deposit(int member, int amount) {
        if (!isMember(member) || amount < -MOST_DEPOSIT || amount > MOST_DEPOSIT) {
            return false;
        }
        Account account = accounts[member];
        if (amount < 0 && account.money + amount < riskOf(member)) {
            return false;
        }
        account.money += amount;
        return true;
    }

    public int place(int member, int instrument, int how, int limit, int quantity) {
        if (!isMember(member) || !isInstrument(instrument) || !isHow(how)
                || quantity < 1 || quantity > MOST_QUANTITY
                || (kindOf(how) != KIND_MARKET && !isPrice(limit))) {
            return BAD;
        }
        if (orderCount >= MOST_ORDERS) {
            return FULL;
        }
        Book book = books[instrument];
        int kind = kindOf(how);
        if (!book.isOpen && kind != KIND_LIMIT && kind != KIND_ICEBERG) {
            return PHASE;
        }
        if (riskWith(member, instrument, sideOf(how), quantity) > accounts[member].money) {
            return RISK;
        }
        Order order = new Order(orderCount, member, instrument, how, limit, quantity);
        if (book.refuses(order)) {
            return REFUSED;
        }
        orders[orderCount] = order;
        orderCount++;
        admit(order, book);
        return order.number;
    }

    public boolean cancel(int member, int order) {
        Order found = findResting(member, order);
        if (found == null) {
            return false;
        }
        takeAway(found, WITHDRAWN);
        return true;
    }

    public int amend(int member, int order, int quantity) {
        Order found = findResting(member, order);
        if (found == null) {
            return NOTHING;
        }
        if (quantity < 1 || quantity >= found.left) {
            return BAD;
        }
        found.left = quantity;
        found.shown = Math.min(found.shown, quantity);
        return 0;
    }

    public int open(int instrument) {
        if (!isInstrument(instrument)) {
            return BAD;
        }
        Book book = books[instrument];
        if (book.isOpen) {
            return PHASE;
        }
        int price = scale.findCallPrice(book);
        book.isOpen = true;
        return price == NO_PRICE ? 0 : tradeAll(book, price);
    }

    public int close(int instrument) {
        if (!isInstrument(instrument)) {
            return BAD;
        }
        if (!books[instrument].isOpen) {
            return PHASE;
        }
        books[instrument].isOpen = false;
        return 0;
    }

    public int indication(int instrument, int part) {
        if (!isInstrument(instrument)) {
            return BAD;
        }
        int price = scale.findCallPrice(books[instrument]);
        // The document names this refusal before that of a bad part.
        if (price == NO_PRICE) {
            return NOTHING;
        }
        switch (part) {
            case 0:
                return price;
            case 1:
                return scale.volumeAt(price);
            case 2:
                return scale.surplusAt(price);
            default:
                return BAD;
        }
    }

    public int best(int instrument, int side) {
        if (!isInstrument(instrument) || !isSide(side)) {
            return BAD;
        }
        Order first = books[instrument].on(side).first;
        return first == null ? NOTHING : first.limit;
    }

    public int depth(int instrument, int side, int price) {
        if (!isInstrument(instrument) || !isSide(side) || !isPrice(price)) {
            return BAD;
        }
        return books[instrument].on(side).shownInQueue(price, null);
    }

    public int ahead(int order) {
        Order found = find(order);
        if (found == null || found.status != RESTING) {
            return NOTHING;
        }
        return books[found.instrument].on(found.side).shownInQueue(found.limit, found);
    }

    public int left(int order) {
        Order found = find(order);
        return found == null ? BAD : found.left;
    }

    public int state(int order) {
        Order found = find(order);
        return found == null ? BAD : found.status;
    }

    public int trades() {
        return tape.count;
    }

    public int trade(int k, int part) {
        if (part < 0 || part >= TRADE_PARTS) {
            return BAD;
        }
        return tape.holds(k) ? tape.read(k, part) : NOTHING;
    }

    public int position(int member, int instrument) {
        return isMember(member) && isInstrument(instrument) ? accounts[member].positions[instrument] : 0;
    }

    public long money(int member) {
        return isMember(member) ? accounts[member].money : 0;
    }

    public long owed(int member) {
        return isMember(member) ? accounts[member].owed : 0;
    }

    public long risk(int member) {
        return isMember(member) ? riskOf(member) : 0;
    }

    public int settle() {
        for (int instrument = 0; instrument < INSTRUMENTS; instrument++) {
            books[instrument].endDay();
        }
        int settled = 0;
        for (int member = 0; member < MEMBERS; member++) {
            Account account = accounts[member];
            if (account.owed != 0) {
                settled++;
            }
            account.money += account.owed;
            account.owed = 0;
        }
        return settled;
    }

    private static boolean isMember(int member) {
        return member >= 0 && member < MEMBERS;
    }

    private static boolean isInstrument(int instrument) {
        return instrument >= 0 && instrument < INSTRUMENTS;
    }

    private static boolean isHow(int how) {
        return how >= 0 && how < 2 * KINDS;
    }

    private static boolean isSide(int side) {
        return side == BUY || side == SELL;
    }

    private static boolean isPrice(int price) {
        return price >= LEAST_PRICE && price <= GREATEST_PRICE;
    }

    private static int kindOf(int how) {
        return how / 2;
    }

    private static int sideOf(int how) {
        return how % 2;
    }

    private Order find(int number) {
        return number >= 0 && number < orderCount ? orders[number] : null;
    }

    private Order findResting(int member, int number) {
        Order order = find(number);
        return order != null && order.member == member && order.status == RESTING ? order : null;
    }

    private long riskOf(int member) {
        return riskWith(member, 0, BUY, 0);
    }

    /** The member's risk if an order for this quantity more rested. */
    private long riskWith(int member, int instrument, int side, int quantity) {
        long sum = 0;
        for (int each = 0; each < INSTRUMENTS; each++) {
            int position = accounts[member].positions[each];
            int highest = position + books[each].buys.leftOf(member);
            int lowest = position - books[each].sells.leftOf(member);
            if (each == instrument && side == BUY) {
                highest += quantity;
            }
            if (each == instrument && side == SELL) {
                lowest -= quantity;
            }
            sum += (long) RISK_RATES[each] * Math.max(Math.abs(highest), Math.abs(lowest));
        }
        return sum;
    }

    private void admit(Order order, Book book) {
        if (book.isOpen) {
            meet(order, book);
        }
        if (order.left == 0) {
            order.status = FILLED;
        } else if (order.kind == KIND_NOW || order.kind == KIND_MARKET) {
            order.status = WITHDRAWN;
        } else {
            order.showAnew();
            book.on(order.side).join(order);
        }
    }

    private void meet(Order order, Book book) {
        Side facing = book.facing(order.side);
        // Every step takes away a resting order or trades at least 1 of the new one.
        for (int step = 0; step < MOST_ORDERS + MOST_QUANTITY && order.left > 0; step++) {
            Order resting = facing.first;
            if (resting == null || !order.accepts(resting.limit)) {
                return;
            }
            if (resting.member == order.member) {
                takeAway(resting, WITHDRAWN);
            } else {
                tradeWithShown(order, resting, facing);
            }
        }
    }

    private void tradeWithShown(Order order, Order resting, Side facing) {
        int amount = Math.min(order.left, resting.shown);
        resting.shown -= amount;
        if (order.side == BUY) {
            exchange(order, resting, resting.limit, amount);
        } else {
            exchange(resting, order, resting.limit, amount);
        }
        if (resting.left == 0) {
            takeAway(resting, FILLED);
        } else if (resting.shown == 0) {
            facing.leave(resting);
            resting.showAnew();
            facing.join(resting);
        }
    }

    /** Trades at the call price all that can be, and answers how much that was. */
    private int tradeAll(Book book, int price) {
        int volume = 0;
        // Every step fills at least one order.
        for (int step = 0; step < MOST_ORDERS; step++) {
            Order buyer = book.buys.first;
            Order seller = book.sells.first;
            if (buyer == null || seller == null || !buyer.accepts(price) || !seller.accepts(price)) {
                return volume;
            }
            int amount = Math.min(buyer.left, seller.left);
            exchange(buyer, seller, price, amount);
            keepOrFill(buyer);
            keepOrFill(seller);
            volume += amount;
        }
        return volume;
    }

    private void keepOrFill(Order order) {
        if (order.left == 0) {
            takeAway(order, FILLED);
        } else {
            order.showAnew();
        }
    }

    private void exchange(Order buyer, Order seller, int price, int amount) {
        buyer.left -= amount;
        seller.left -= amount;
        accounts[buyer.member].enter(buyer.instrument, amount, price);
        accounts[seller.member].enter(seller.instrument, -amount, price);
        books[buyer.instrument].reference = price;
        tape.write(buyer.number, seller.number, price, amount);
    }

    private void takeAway(Order order, int status) {
        books[order.instrument].on(order.side).leave(order);
        order.status = status;
    }

    private static final class Account {
        final int[] positions = new int[INSTRUMENTS];
        long money = 0;
        long owed = 0;

        /** Enters a trade; the amount is below 0 for the seller. */
        void enter(int instrument, int amount, int price) {
            positions[instrument] += amount;
            owed -= (long) amount * price;
        }
    }

    private static final class Order {
        final int number;
        final int member;
        final int instrument;
        final int side;
        final int kind;
        final int limit;
        int left;
        int shown = 0;
        int status = RESTING;
        Order next = null;

        Order(int number, int member, int instrument, int how, int limit, int quantity) {
            this.number = number;
            this.member = member;
            this.instrument = instrument;
            this.side = sideOf(how);
            this.kind = kindOf(how);
            // With the widest limit every price is good, and it never rests to show that limit.
            if (this.kind == KIND_MARKET) {
                this.limit = this.side == BUY ? GREATEST_PRICE : LEAST_PRICE;
            } else {
                this.limit = limit;
            }
            this.left = quantity;
        }

        boolean accepts(int price) {
            return side == BUY ? price <= limit : price >= limit;
        }

        void showAnew() {
            shown = kind == KIND_ICEBERG ? Math.min(ICEBERG_SHOWS, left) : left;
        }
    }

    /** One side's resting orders in a single chain: the queue with the best limit first, each in its order. */
    private static final class Side {
        Order first = null;

        void join(Order order) {
            Order before = null;
            Order behind = first;
            while (behind != null && !isBetter(order, behind)) {
                before = behind;
                behind = behind.next;
            }
            order.next = behind;
            link(before, order);
        }

        void leave(Order order) {
            Order before = null;
            Order at = first;
            while (at != null && at != order) {
                before = at;
                at = at.next;
            }
            if (at != null) {
                link(before, at.next);
                at.next = null;
            }
        }

        int leftOf(int member) {
            int sum = 0;
            for (Order at = first; at != null; at = at.next) {
                if (at.member == member) {
                    sum += at.left;
                }
            }
            return sum;
        }

        /** What is left of the orders of other members that the newcomer could meet. */
        int leftFor(Order newcomer) {
            int sum = 0;
            for (Order at = first; at != null && newcomer.accepts(at.limit); at = at.next) {
                if (at.member != newcomer.member) {
                    sum += at.left;
                }
            }
            return sum;
        }

        /** What the queue shows before the order that ends the count, all of it where that is null. */
        int shownInQueue(int price, Order end) {
            int sum = 0;
            for (Order at = first; at != null && at != end; at = at.next) {
                if (at.limit == price) {
                    sum += at.shown;
                }
            }
            return sum;
        }

        void withdrawAll() {
            for (Order at = first; at != null; at = at.next) {
                at.status = WITHDRAWN;
            }
            first = null;
        }

        private static boolean isBetter(Order order, Order other) {
            return order.limit != other.limit && order.accepts(other.limit);
        }

        private void link(Order before, Order after) {
            if (before == null) {
                first = after;
            } else {
                before.next = after;
            }
        }
    }

    /** The state of one instrument. */
    private static final class Book {
        final Side buys = new Side();
        final Side sells = new Side();
        boolean isOpen = false;
        int reference = FIRST_REFERENCE;

        Side on(int side) {
            return side == BUY ? buys : sells;
        }

        Side facing(int side) {
            return side == BUY ? sells : buys;
        }

        boolean refuses(Order order) {
            Side facing = facing(order.side);
            if (order.kind == KIND_POST) {
                return facing.first != null && order.accepts(facing.first.limit);
            }
            return order.kind == KIND_ALL && facing.leftFor(order) < order.left;
        }

        void endDay() {
            buys.withdrawAll();
            sells.withdrawAll();
            isOpen = false;
        }
    }

    /** The latest trades, in a ring of rows that is written over again and again. */
    private static final class Tape {
        private final int[] rows = new int[TRADES_KEPT * TRADE_PARTS];
        int count = 0;

        void write(int buyer, int seller, int price, int amount) {
            int row = count % TRADES_KEPT * TRADE_PARTS;
            rows[row] = buyer;
            rows[row + 1] = seller;
            rows[row + 2] = price;
            rows[row + 3] = amount;
            count++;
        }

        boolean holds(int k) {
            return k >= 0 && k < count && k >= count - TRADES_KEPT;
        }

        int read(int k, int part) {
            return rows[k % TRADES_KEPT * TRADE_PARTS + part];
        }
    }

    /** Weighs both sides of a book against each other at every price. */
    private static final class Scale {
        // One cell more than there are prices, so that each sum has a neighbour to start from.
        private final int[] bought = new int[GREATEST_PRICE + 2];
        private final int[] sold = new int[GREATEST_PRICE + 2];

        int findCallPrice(Book book) {
            weigh(book);
            int mostVolume = 0;
            int leastGap = 0;
            for (int price = LEAST_PRICE; price <= GREATEST_PRICE; price++) {
                int volume = volumeAt(price);
                int gap = Math.abs(surplusAt(price));
                if (volume > mostVolume || (volume == mostVolume && gap < leastGap)) {
                    mostVolume = volume;
                    leastGap = gap;
                }
            }
            return mostVolume == 0 ? NO_PRICE : choose(mostVolume, leastGap, book.reference);
        }

        int volumeAt(int price) {
            return Math.min(bought[price], sold[price]);
        }

        int surplusAt(int price) {
            return bought[price] - sold[price];
        }

        private void weigh(Book book) {
            Arrays.fill(bought, 0);
            Arrays.fill(sold, 0);
            for (Order at = book.buys.first; at != null; at = at.next) {
                bought[at.limit] += at.left;
            }
            for (Order at = book.sells.first; at != null; at = at.next) {
                sold[at.limit] += at.left;
            }
            for (int price = GREATEST_PRICE; price >= LEAST_PRICE; price--) {
                bought[price] += bought[price + 1];
            }
            for (int price = LEAST_PRICE; price <= GREATEST_PRICE; price++) {
                sold[price] += sold[price - 1];
            }
        }

        private int choose(int volume, int gap, int reference) {
            int least = NO_PRICE;
            int greatest = NO_PRICE;
            int nearest = NO_PRICE;
            boolean alwaysMoreBought = true;
            boolean alwaysMoreSold = true;
            for (int price = LEAST_PRICE; price <= GREATEST_PRICE; price++) {
                int surplus = surplusAt(price);
                if (volumeAt(price) != volume || Math.abs(surplus) != gap) {
                    continue;
                }
                least = least == NO_PRICE ? price : least;
                greatest = price;
                if (nearest == NO_PRICE || Math.abs(price - reference) < Math.abs(nearest - reference)) {
                    nearest = price;
                }
                alwaysMoreBought = alwaysMoreBought && surplus > 0;
                alwaysMoreSold = alwaysMoreSold && surplus < 0;
            }
            if (alwaysMoreBought) {
                return greatest;
            }
            return alwaysMoreSold ? least : nearest;
        }
    }
}
