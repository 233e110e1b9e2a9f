import java.util.ArrayList;
import java.util.NoSuchElementException;

/** An order book with its clearing house. Calls that throw change nothing. */
public final class MarginCourt {
    private static final int MEMBERS = 5;
    private static final int PRODUCTS = 3;
    private static final int MOVES = 4;
    private static final int KINDS = 2;
    private static final int NOBODY = -1;

    private static final int FIRST_PRICE = 100;
    private static final int MOST_PRICE = 9999;
    private static final int MOST_CHANGE = 500;
    private static final int MOST_AMOUNT = 100000;
    private static final int MOST_UNITS = 1000;
    private static final int MOST_QUANTITY = 100;
    private static final int MOST_ORDERS = 100;

    private static final int PRICES_KEPT = 4;
    private static final int LEAST_HAIRCUT = 10;
    private static final int MOST_HAIRCUT = 90;
    private static final int WHOLE = 100;

    private static final int NOT_CALLED = -1;
    private static final int HOURS_TO_CLOSING = 2;

    /** What a member has. */
    private static final class Account {
        private long cash;
        private long share;
        /** What came into the cash by no trade: it lets the equity be reckoned by trades alone. */
        private long outside;
        private boolean failed;
        private int hoursCalled = NOT_CALLED;
        private final int[] units = new int[KINDS];
        private final int[] positions = new int[PRODUCTS];
        private final long[] paidSums = new long[PRODUCTS];
    }

    private static final class Product {
        private int price = FIRST_PRICE;
        private boolean halted;
        private final int[] moves = new int[MOVES];
    }

    private static final class Kind {
        /** The latest price stands last. */
        private final int[] lastPrices = new int[PRICES_KEPT];
        private int haircut = LEAST_HAIRCUT;

        private Kind() {
            // As long as fewer prices were told, the first one is among them:
            // more copies of it change neither the greatest nor the least.
            for (int i = 0; i < PRICES_KEPT; i++) {
                lastPrices[i] = FIRST_PRICE;
            }
        }
    }

    private static final class Order {
        private final int number;
        private final int member;
        private final int product;
        private final boolean buys;
        private final int limit;
        private int rest;

        private Order(int number, int member, int product, boolean buys, int limit, int quantity) {
            this.number = number;
            this.member = member;
            this.product = product;
            this.buys = buys;
            this.limit = limit;
            this.rest = quantity;
        }
    }

    /** A trade; one that drops a position has NOBODY on its other side. */
    private static final class Trade {
        private final int buyer;
        private final int seller;
        private final int product;
        private final int quantity;
        private final int price;

        private Trade(int buyer, int seller, int product, int quantity, int price) {
            this.buyer = buyer;
            this.seller = seller;
            this.product = product;
            this.quantity = quantity;
            this.price = price;
        }
    }

    private final Account[] accounts = new Account[MEMBERS];
    private final Product[] products = new Product[PRODUCTS];
    private final Kind[] kinds = new Kind[KINDS];
    private final ArrayList<Order> orders = new ArrayList<Order>();
    private final ArrayList<Trade> log = new ArrayList<Trade>();
    /** Used again by each reckoning of a margin, so that none makes a row of its own. */
    private final long[] lossesByMove = new long[MOVES];
    private int tradeCount;
    private long unpaidLoss;

    public MarginCourt() {
        for (int i = 0; i < MEMBERS; i++) {
            accounts[i] = new Account();
        }
        for (int i = 0; i < PRODUCTS; i++) {
            products[i] = new Product();
        }
        for (int i = 0; i < KINDS; i++) {
            kinds[i] = new Kind();
        }
    }

    // ---- what is told

    public int tell(int product, int price) throws IllegalArgumentException {
        demandProduct(product);
        demandWithin(price, 1, MOST_PRICE);
        int before = products[product].price;
        products[product].price = price;
        return before;
    }

    public int setMove(int move, int product, int change) throws IllegalArgumentException {
        demandWithin(move, 0, MOVES - 1);
        demandProduct(product);
        demandWithin(change, -MOST_CHANGE, MOST_CHANGE);
        int before = products[product].moves[move];
        products[product].moves[move] = change;
        return before;
    }

    public int tellKind(int kind, int price) throws IllegalArgumentException {
        demandKind(kind);
        demandWithin(price, 1, MOST_PRICE);
        int[] prices = kinds[kind].lastPrices;
        for (int i = 1; i < PRICES_KEPT; i++) {
            prices[i - 1] = prices[i];
        }
        prices[PRICES_KEPT - 1] = price;
        kinds[kind].haircut = haircutBy(prices, price);
        return kinds[kind].haircut;
    }

    // ---- money and collateral

    public int pay(int member, int amount) throws IllegalArgumentException, IllegalStateException {
        demandMember(member);
        demandWithin(amount, -MOST_AMOUNT, MOST_AMOUNT);
        Account account = accounts[member];
        demandState(!account.failed);
        demandState(amount >= 0 || freeOf(member) + amount >= 0);
        receiveFromOutside(account, amount);
        return (int) account.cash;
    }

    public int bring(int member, int kind, int units) throws IllegalArgumentException, IllegalStateException {
        demandMember(member);
        demandKind(kind);
        demandWithin(units, -MOST_UNITS, MOST_UNITS);
        Account account = accounts[member];
        int before = account.units[kind];
        int then = before + units;
        demandState(!account.failed && then >= 0 && then <= MOST_UNITS);
        demandState(units >= 0 || freeOf(member) - worthOf(kind, before) + worthOf(kind, then) >= 0);
        account.units[kind] = then;
        return then;
    }

    public int contribute(int member, int amount) throws IllegalArgumentException, IllegalStateException {
        demandMember(member);
        demandWithin(amount, 1, MOST_AMOUNT);
        Account account = accounts[member];
        demandState(!account.failed);
        account.share += amount;
        return (int) account.share;
    }

    // ---- orders

    public int place(int member, int product, boolean buys, int limit, int quantity)
            throws IllegalArgumentException, IllegalStateException {
        demandMember(member);
        demandProduct(product);
        demandWithin(limit, 1, MOST_PRICE);
        demandWithin(quantity, 1, MOST_QUANTITY);
        int number = orders.size();
        demandState(!accounts[member].failed && !products[product].halted && number < MOST_ORDERS);
        Order order = new Order(number, member, product, buys, limit, quantity);
        orders.add(order);
        match(order);
        return number;
    }

    public int cancel(int order) throws IndexOutOfBoundsException, IllegalStateException {
        demandOrder(order);
        Order cancelled = orders.get(order);
        demandState(cancelled.rest > 0);
        int rest = cancelled.rest;
        cancelled.rest = 0;
        return rest;
    }

    public int halt(int product, boolean halts) throws IllegalArgumentException {
        demandProduct(product);
        products[product].halted = halts;
        return halts ? cancelOrdersFor(product) : 0;
    }

    public int left(int order) throws IndexOutOfBoundsException {
        demandOrder(order);
        return orders.get(order).rest;
    }

    public int best(int product, boolean buys) throws IllegalArgumentException, NoSuchElementException {
        demandProduct(product);
        Order found = bestResting(product, buys);
        if (found == null) {
            throw new NoSuchElementException();
        }
        return found.number;
    }

    public int trades() {
        return tradeCount;
    }

    // ---- hours and evenings

    public int hour() {
        int failures = 0;
        for (int member = 0; member < MEMBERS; member++) {
            if (!accounts[member].failed && countHour(member) >= HOURS_TO_CLOSING) {
                closeOut(member);
                if (freeOf(member) < 0) {
                    fail(member);
                    failures++;
                }
            }
        }
        return failures;
    }

    public int evening() {
        long change = 0;
        for (int member = 0; member < MEMBERS; member++) {
            change += netPositions(accounts[member]);
        }
        return (int) change;
    }

    public int called(int member) throws IllegalArgumentException {
        demandMember(member);
        return accounts[member].hoursCalled;
    }

    public boolean hasFailed(int member) throws IllegalArgumentException {
        demandMember(member);
        return accounts[member].failed;
    }

    // ---- accounts

    public int position(int member, int product) throws IllegalArgumentException {
        demandMember(member);
        demandProduct(product);
        return accounts[member].positions[product];
    }

    public int cash(int member) throws IllegalArgumentException {
        demandMember(member);
        return (int) accounts[member].cash;
    }

    public int equity(int member) throws IllegalArgumentException {
        demandMember(member);
        return (int) equityOf(member);
    }

    public int equityByTrades(int member) throws IllegalArgumentException {
        demandMember(member);
        long sum = accounts[member].outside;
        for (int i = 0; i < log.size(); i++) {
            sum += gainOf(member, log.get(i));
        }
        return (int) sum;
    }

    public int margin(int member) throws IllegalArgumentException {
        demandMember(member);
        return (int) marginOf(member);
    }

    public int haircut(int kind) throws IllegalArgumentException {
        demandKind(kind);
        return kinds[kind].haircut;
    }

    public int collateral(int member) throws IllegalArgumentException {
        demandMember(member);
        return (int) collateralOf(member);
    }

    public int free(int member) throws IllegalArgumentException {
        demandMember(member);
        return (int) freeOf(member);
    }

    public int share(int member) throws IllegalArgumentException {
        demandMember(member);
        return (int) accounts[member].share;
    }

    public int unpaid() {
        return (int) unpaidLoss;
    }

    // ---- what calls demand

    private static void demandMember(int member) {
        demandWithin(member, 0, MEMBERS - 1);
    }

    private static void demandProduct(int product) {
        demandWithin(product, 0, PRODUCTS - 1);
    }

    private static void demandKind(int kind) {
        demandWithin(kind, 0, KINDS - 1);
    }

    private static void demandWithin(int value, int least, int most) {
        if (value < least || value > most) {
            throw new IllegalArgumentException();
        }
    }

    private static void demandState(boolean holds) {
        if (!holds) {
            throw new IllegalStateException();
        }
    }

    private void demandOrder(int order) {
        if (order < 0 || order >= orders.size()) {
            throw new IndexOutOfBoundsException();
        }
    }

    // ---- the book

    /** The best order that rests for a product on a side; null if there is none. */
    private Order bestResting(int product, boolean buys) {
        Order found = null;
        for (int i = 0; i < orders.size(); i++) {
            Order order = orders.get(i);
            if (order.rest > 0 && order.product == product && order.buys == buys
                    && (found == null || isBetter(order, found))) {
                found = order;
            }
        }
        return found;
    }

    private static boolean isBetter(Order order, Order other) {
        return order.buys ? order.limit > other.limit : order.limit < other.limit;
    }

    private void match(Order incoming) {
        // Each round but the last ends a resting order, so there are no more rounds than orders.
        for (int round = 0; round < MOST_ORDERS && incoming.rest > 0; round++) {
            Order resting = bestResting(incoming.product, !incoming.buys);
            if (resting == null || !meet(incoming, resting)) {
                return;
            }
            if (resting.member == incoming.member) {
                resting.rest = 0;
            } else {
                int quantity = Math.min(incoming.rest, resting.rest);
                incoming.rest -= quantity;
                tradeWithResting(incoming.member, resting, quantity);
            }
        }
    }

    private static boolean meet(Order incoming, Order resting) {
        return incoming.buys ? incoming.limit >= resting.limit : incoming.limit <= resting.limit;
    }

    private void tradeWithResting(int member, Order resting, int quantity) {
        resting.rest -= quantity;
        if (resting.buys) {
            trade(resting.member, member, resting.product, quantity, resting.limit);
        } else {
            trade(member, resting.member, resting.product, quantity, resting.limit);
        }
    }

    private void trade(int buyer, int seller, int product, int quantity, int price) {
        book(accounts[buyer], product, quantity, price);
        book(accounts[seller], product, -quantity, price);
        log.add(new Trade(buyer, seller, product, quantity, price));
        tradeCount++;
    }

    private static void book(Account account, int product, int quantity, int price) {
        account.positions[product] += quantity;
        account.paidSums[product] += (long) quantity * price;
    }

    private int cancelOrdersFor(int product) {
        int cancelled = 0;
        for (int i = 0; i < orders.size(); i++) {
            Order order = orders.get(i);
            if (order.rest > 0 && order.product == product) {
                order.rest = 0;
                cancelled++;
            }
        }
        return cancelled;
    }

    private void cancelOrdersOf(int member) {
        for (int i = 0; i < orders.size(); i++) {
            Order order = orders.get(i);
            if (order.member == member) {
                order.rest = 0;
            }
        }
    }

    // ---- what an account is worth

    private long freeOf(int member) {
        return equityOf(member) + collateralOf(member) - marginOf(member);
    }

    private long equityOf(int member) {
        Account account = accounts[member];
        long sum = account.cash;
        for (int product = 0; product < PRODUCTS; product++) {
            sum += differenceOf(account, product);
        }
        return sum;
    }

    /** By how much the position is worth more than was paid for it. */
    private long differenceOf(Account account, int product) {
        return (long) account.positions[product] * products[product].price - account.paidSums[product];
    }

    private long gainOf(int member, Trade trade) {
        long gain = (long) trade.quantity * (products[trade.product].price - trade.price);
        if (trade.buyer == member) {
            return gain;
        }
        return trade.seller == member ? -gain : 0;
    }

    private long collateralOf(int member) {
        long sum = 0;
        for (int kind = 0; kind < KINDS; kind++) {
            sum += worthOf(kind, accounts[member].units[kind]);
        }
        return sum;
    }

    private long worthOf(int kind, int units) {
        int price = kinds[kind].lastPrices[PRICES_KEPT - 1];
        return (long) units * price * (WHOLE - kinds[kind].haircut) / WHOLE;
    }

    private static int haircutBy(int[] prices, int last) {
        int greatest = last;
        int least = last;
        for (int i = 0; i < prices.length; i++) {
            greatest = Math.max(greatest, prices[i]);
            least = Math.min(least, prices[i]);
        }
        return Math.min(MOST_HAIRCUT, LEAST_HAIRCUT + dividedUp((greatest - least) * WHOLE, last));
    }

    /** Rounds up. No price is below 1, so nothing is ever divided by less. */
    private static int dividedUp(int amount, int by) {
        return by < 1 ? 0 : (amount + by - 1) / by;
    }

    private long marginOf(int member) {
        for (int move = 0; move < MOVES; move++) {
            lossesByMove[move] = 0;
        }
        for (int product = 0; product < PRODUCTS; product++) {
            long position = accounts[member].positions[product];
            long bought = position + restOf(member, product, true);
            long sold = position - restOf(member, product, false);
            for (int move = 0; move < MOVES; move++) {
                long change = products[product].moves[move];
                lossesByMove[move] += Math.max(-bought * change, -sold * change);
            }
        }
        long worst = 0;
        for (int move = 0; move < MOVES; move++) {
            worst = Math.max(worst, lossesByMove[move]);
        }
        return worst;
    }

    private long restOf(int member, int product, boolean buys) {
        long sum = 0;
        for (int i = 0; i < orders.size(); i++) {
            Order order = orders.get(i);
            if (order.member == member && order.product == product && order.buys == buys) {
                sum += order.rest;
            }
        }
        return sum;
    }

    // ---- money that moves by no trade

    private static void receiveFromOutside(Account account, long amount) {
        account.cash += amount;
        account.outside += amount;
    }

    /** Returns by how much the cash changes. */
    private long netPositions(Account account) {
        long change = 0;
        for (int product = 0; product < PRODUCTS; product++) {
            long difference = differenceOf(account, product);
            change += difference;
            // With it the paid sum is the position times the price.
            account.paidSums[product] += difference;
        }
        account.cash += change;
        return change;
    }

    // ---- calls and closing out

    /** Returns since how many hours the member is called, this one counted. */
    private int countHour(int member) {
        Account account = accounts[member];
        if (freeOf(member) >= 0) {
            account.hoursCalled = NOT_CALLED;
        } else {
            // One that is not called stands one below 0 hours, so the same step begins a call.
            account.hoursCalled++;
        }
        return account.hoursCalled;
    }

    private void closeOut(int member) {
        accounts[member].hoursCalled = NOT_CALLED;
        cancelOrdersOf(member);
        int[] sequence = productsByRisk(member);
        for (int i = 0; i < sequence.length && freeOf(member) < 0; i++) {
            closePosition(member, sequence[i]);
        }
    }

    /** All products: closing one without a position does nothing. */
    private int[] productsByRisk(int member) {
        int[] sequence = new int[PRODUCTS];
        for (int product = 0; product < PRODUCTS; product++) {
            int rank = 0;
            for (int other = 0; other < PRODUCTS; other++) {
                rank += goesAhead(member, other, product) ? 1 : 0;
            }
            if (rank < PRODUCTS) {
                sequence[rank] = product;
            }
        }
        return sequence;
    }

    private boolean goesAhead(int member, int other, int product) {
        long otherRisk = riskOf(member, other);
        long risk = riskOf(member, product);
        return otherRisk > risk || otherRisk == risk && other < product;
    }

    private long riskOf(int member, int product) {
        long position = accounts[member].positions[product];
        int[] moves = products[product].moves;
        long risk = -position * moves[0];
        for (int move = 1; move < MOVES; move++) {
            risk = Math.max(risk, -position * moves[move]);
        }
        return risk;
    }

    private void closePosition(int member, int product) {
        int[] positions = accounts[member].positions;
        // Each round but the last ends a resting order, so there are no more rounds than orders.
        for (int round = 0; round < MOST_ORDERS && positions[product] != 0; round++) {
            Order resting = bestResting(product, positions[product] > 0);
            if (resting == null) {
                return;
            }
            tradeWithResting(member, resting, Math.min(resting.rest, Math.abs(positions[product])));
        }
    }

    // ---- failing

    private void fail(int member) {
        Account account = accounts[member];
        account.failed = true;
        for (int product = 0; product < PRODUCTS; product++) {
            if (account.positions[product] != 0) {
                handOver(member, memberWithMostFree(), product);
            }
        }
        sellCollateral(member);
        netPositions(account);
        if (account.cash < 0) {
            coverLoss(account);
        }
    }

    private void handOver(int failed, int taker, int product) {
        int position = accounts[failed].positions[product];
        int price = products[product].price;
        if (taker == NOBODY) {
            drop(failed, product, position, price);
        } else if (position > 0) {
            trade(taker, failed, product, position, price);
        } else {
            trade(failed, taker, product, -position, price);
        }
    }

    /** Of those that have not failed; NOBODY if all have. */
    private int memberWithMostFree() {
        int found = NOBODY;
        long most = 0;
        for (int member = 0; member < MEMBERS; member++) {
            if (!accounts[member].failed) {
                long freeNow = freeOf(member);
                if (found == NOBODY || freeNow > most) {
                    found = member;
                    most = freeNow;
                }
            }
        }
        return found;
    }

    private void drop(int failed, int product, int position, int price) {
        book(accounts[failed], product, -position, price);
        log.add(new Trade(NOBODY, failed, product, position, price));
    }

    private void sellCollateral(int member) {
        Account account = accounts[member];
        receiveFromOutside(account, collateralOf(member));
        for (int kind = 0; kind < KINDS; kind++) {
            account.units[kind] = 0;
        }
    }

    private void coverLoss(Account failed) {
        long loss = -failed.cash;
        receiveFromOutside(failed, loss);
        long rest = loss - takeFromShare(failed, loss);
        unpaidLoss += rest - takeFromOthers(rest);
    }

    /** Returns how much of it the share pays. */
    private static long takeFromShare(Account account, long amount) {
        long paid = Math.min(amount, account.share);
        account.share -= paid;
        return paid;
    }

    /** Returns how much of the loss the members that have not failed pay together. */
    private long takeFromOthers(long loss) {
        long all = sharesOfOthers();
        long paid = 0;
        for (int member = 0; member < MEMBERS; member++) {
            Account account = accounts[member];
            if (!account.failed) {
                paid += takeFromShare(account, partOf(loss, account.share, all));
            }
        }
        for (int member = 0; member < MEMBERS; member++) {
            if (!accounts[member].failed) {
                paid += takeFromShare(accounts[member], loss - paid);
            }
        }
        return paid;
    }

    private long sharesOfOthers() {
        long sum = 0;
        for (int member = 0; member < MEMBERS; member++) {
            sum += accounts[member].failed ? 0 : accounts[member].share;
        }
        return sum;
    }

    private static long partOf(long loss, long share, long all) {
        if (all <= loss || all < 1) {
            return share;
        }
        return loss * share / all;
    }
}
