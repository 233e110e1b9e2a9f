import java.util.ArrayList;
import java.util.Comparator;
import java.util.List;
import java.util.NoSuchElementException;
import java.util.stream.IntStream;

/**
 * The document once more, told differently: all is kept for good, and each answer is
 * reckoned from the beginning. It also counts what happened, so that a test can see
 * whether its runs came to the rare cases.
 */
final class PlainModel {
    record Deal(int buyer, int seller, int product, int quantity, int price) {
        long signed(int member) {
            return member == buyer ? quantity : member == seller ? -quantity : 0;
        }
    }

    static final class Ticket {
        int number, member, product, limit, rest;
        boolean buys;
    }

    int closings, closedFree, failures, takenOver, ownCancelled, fundShared, fundRounded, fundExhausted, ownShareEnough;
    int soldCollateral, failedWithCash, severalClosed;

    private final int[] prices = {100, 100, 100};
    private final int[][] moves = new int[4][3];
    private final boolean[] halted = new boolean[3];
    private final List<List<Integer>> kindPrices = List.of(new ArrayList<>(List.of(100)), new ArrayList<>(List.of(100)));
    private final List<Ticket> tickets = new ArrayList<>();
    private final List<Deal> deals = new ArrayList<>();
    private final long[] marked = new long[15];
    private final int[] dealsMarked = new int[15];
    private final long[] cash = new long[5];
    private final long[] flows = new long[5];
    private final long[] shares = new long[5];
    private final int[][] units = new int[5][2];
    private final int[] hours = {-1, -1, -1, -1, -1};
    private final boolean[] out = new boolean[5];
    private long unpaid;

    private static void argument(boolean fine) {
        if (!fine) {
            throw new IllegalArgumentException();
        }
    }

    private static void state(boolean fine) {
        if (!fine) {
            throw new IllegalStateException();
        }
    }

    private static boolean in(int x, int low, int high) {
        return low <= x && x <= high;
    }

    int tell(int product, int price) {
        argument(in(product, 0, 2) && in(price, 1, 9999));
        int old = prices[product];
        prices[product] = price;
        return old;
    }

    int setMove(int move, int product, int change) {
        argument(in(move, 0, 3) && in(product, 0, 2) && in(change, -500, 500));
        int old = moves[move][product];
        moves[move][product] = change;
        return old;
    }

    int tellKind(int kind, int price) {
        argument(in(kind, 0, 1) && in(price, 1, 9999));
        kindPrices.get(kind).add(price);
        return haircut(kind);
    }

    int haircut(int kind) {
        argument(in(kind, 0, 1));
        List<Integer> all = kindPrices.get(kind);
        List<Integer> last = all.subList(Math.max(0, all.size() - 4), all.size());
        int high = last.stream().max(Comparator.naturalOrder()).get();
        int low = last.stream().min(Comparator.naturalOrder()).get();
        int besides = 0;
        while ((long) besides * all.get(all.size() - 1) < (high - low) * 100L) {
            besides++;
        }
        return Math.min(90, 10 + besides);
    }

    int pay(int member, int amount) {
        argument(in(member, 0, 4) && in(amount, -100000, 100000));
        state(!out[member]);
        state(amount >= 0 || free(member) + amount >= 0);
        cash[member] += amount;
        flows[member] += amount;
        return (int) cash[member];
    }

    int bring(int member, int kind, int more) {
        argument(in(member, 0, 4) && in(kind, 0, 1) && in(more, -1000, 1000));
        state(!out[member] && in(units[member][kind] + more, 0, 1000));
        units[member][kind] += more;
        if (more < 0 && free(member) < 0) {
            units[member][kind] -= more;
            throw new IllegalStateException();
        }
        return units[member][kind];
    }

    int contribute(int member, int amount) {
        argument(in(member, 0, 4) && in(amount, 1, 100000));
        state(!out[member]);
        shares[member] += amount;
        return (int) shares[member];
    }

    int place(int member, int product, boolean buys, int limit, int quantity) {
        argument(in(member, 0, 4) && in(product, 0, 2) && in(limit, 1, 9999) && in(quantity, 1, 100));
        state(!out[member] && !halted[product] && tickets.size() < 100);
        Ticket ticket = new Ticket();
        ticket.number = tickets.size();
        ticket.member = member;
        ticket.product = product;
        ticket.buys = buys;
        ticket.limit = limit;
        ticket.rest = quantity;
        tickets.add(ticket);
        for (Ticket other : book(product, !buys)) {
            boolean apart = buys ? limit < other.limit : other.limit < limit;
            if (apart || ticket.rest == 0) {
                break;
            }
            if (other.member == member) {
                other.rest = 0;
                ownCancelled++;
                continue;
            }
            int quantityNow = Math.min(ticket.rest, other.rest);
            ticket.rest -= quantityNow;
            deal(member, buys, other, quantityNow);
        }
        return ticket.number;
    }

    private void deal(int member, boolean buys, Ticket other, int quantity) {
        other.rest -= quantity;
        deals.add(new Deal(buys ? member : other.member, buys ? other.member : member, other.product, quantity, other.limit));
    }

    private List<Ticket> book(int product, boolean buys) {
        Comparator<Ticket> byLimit = Comparator.comparingInt(t -> buys ? -t.limit : t.limit);
        return tickets.stream().filter(t -> t.rest > 0 && t.product == product && t.buys == buys)
                .sorted(byLimit.thenComparingInt(t -> t.number)).toList();
    }

    int cancel(int order) {
        int rest = left(order);
        state(rest > 0);
        tickets.get(order).rest = 0;
        return rest;
    }

    int halt(int product, boolean halts) {
        argument(in(product, 0, 2));
        halted[product] = halts;
        if (!halts) {
            return 0;
        }
        List<Ticket> gone = new ArrayList<>(book(product, true));
        gone.addAll(book(product, false));
        gone.forEach(t -> t.rest = 0);
        return gone.size();
    }

    int left(int order) {
        if (!in(order, 0, tickets.size() - 1)) {
            throw new IndexOutOfBoundsException();
        }
        return tickets.get(order).rest;
    }

    int best(int product, boolean buys) {
        argument(in(product, 0, 2));
        return book(product, buys).stream().findFirst().orElseThrow(NoSuchElementException::new).number;
    }

    int trades() {
        return deals.size();
    }

    int hour() {
        int before = failures;
        int closingsBefore = closings;
        for (int m = 0; m < 5; m++) {
            if (out[m]) {
                continue;
            }
            if (free(m) >= 0) {
                hours[m] = -1;
            } else if (hours[m] == -1) {
                hours[m] = 0;
            } else if (hours[m] == 0) {
                hours[m] = 1;
            } else {
                closeOut(m);
            }
        }
        severalClosed += closings - closingsBefore > 1 ? 1 : 0;
        return failures - before;
    }

    private void closeOut(int m) {
        closings++;
        hours[m] = -1;
        tickets.stream().filter(t -> t.member == m).forEach(t -> t.rest = 0);
        List<Integer> turn = IntStream.range(0, 3).filter(p -> position(m, p) != 0).boxed()
                .sorted(Comparator.comparingLong((Integer p) -> -risk(m, p)).thenComparing(p -> p)).toList();
        for (int p : turn) {
            if (free(m) >= 0) {
                break;
            }
            boolean buys = position(m, p) < 0;
            for (Ticket other : book(p, !buys)) {
                int open = Math.abs(position(m, p));
                if (open > 0) {
                    deal(m, buys, other, Math.min(open, other.rest));
                }
            }
        }
        if (free(m) < 0) {
            fail(m);
        } else {
            closedFree++;
        }
    }

    private long risk(int m, int p) {
        return IntStream.range(0, 4).mapToLong(k -> -(long) position(m, p) * moves[k][p]).max().getAsLong();
    }

    private void fail(int m) {
        failures++;
        out[m] = true;
        for (int p = 0; p < 3; p++) {
            int open = position(m, p);
            if (open == 0) {
                continue;
            }
            int taker = IntStream.range(0, 5).filter(o -> !out[o]).boxed()
                    .max(Comparator.<Integer>comparingLong(o -> free(o)).thenComparing(o -> -o))
                    .orElseThrow(() -> new AssertionError("positions are 0 together, so the last one has none"));
            deals.add(new Deal(open > 0 ? taker : m, open > 0 ? m : taker, p, Math.abs(open), prices[p]));
            takenOver++;
        }
        long sold = collateral(m);
        soldCollateral += sold > 0 ? 1 : 0;
        units[m] = new int[2];
        flows[m] += sold;
        cash[m] += sold;
        net(m);
        failedWithCash += cash[m] > 0 ? 1 : 0;
        if (cash[m] < 0) {
            long loss = -cash[m];
            cash[m] = 0;
            flows[m] += loss;
            share(m, loss);
        }
    }

    private void share(int m, long loss) {
        long own = Math.min(shares[m], loss);
        shares[m] -= own;
        long rest = loss - own;
        List<Integer> others = IntStream.range(0, 5).filter(o -> !out[o]).boxed().toList();
        long all = others.stream().mapToLong(o -> shares[o]).sum();
        if (rest == 0) {
            ownShareEnough++;
        }
        if (all < rest) {
            others.forEach(o -> shares[o] = 0);
            unpaid += rest - all;
            fundExhausted += all > 0 ? 1 : 0;
            return;
        }
        if (rest == 0) {
            return;
        }
        fundShared++;
        long open = rest;
        long[] before = shares.clone();
        for (int o : others) {
            long part = rest * before[o] / all;
            shares[o] -= part;
            open -= part;
        }
        fundRounded += open > 0 ? 1 : 0;
        for (int o : others) {
            while (open > 0 && shares[o] > 0) {
                shares[o]--;
                open--;
            }
        }
        unpaid += open;
    }

    private long paid(int m, int p) {
        long sum = marked[m * 3 + p];
        for (Deal deal : deals.subList(dealsMarked[m * 3 + p], deals.size())) {
            sum += deal.product == p ? deal.signed(m) * deal.price : 0;
        }
        return sum;
    }

    private long net(int m) {
        long change = 0;
        for (int p = 0; p < 3; p++) {
            long worth = (long) position(m, p) * prices[p];
            change += worth - paid(m, p);
            marked[m * 3 + p] = worth;
            dealsMarked[m * 3 + p] = deals.size();
        }
        cash[m] += change;
        return change;
    }

    int evening() {
        return (int) IntStream.range(0, 5).mapToLong(this::net).sum();
    }

    int called(int member) {
        argument(in(member, 0, 4));
        return hours[member];
    }

    boolean hasFailed(int member) {
        argument(in(member, 0, 4));
        return out[member];
    }

    int position(int member, int product) {
        argument(in(member, 0, 4) && in(product, 0, 2));
        return (int) deals.stream().filter(d -> d.product == product).mapToLong(d -> d.signed(member)).sum();
    }

    int cash(int member) {
        argument(in(member, 0, 4));
        return (int) cash[member];
    }

    int equity(int member) {
        argument(in(member, 0, 4));
        long sum = cash[member];
        for (int p = 0; p < 3; p++) {
            sum += (long) position(member, p) * prices[p] - paid(member, p);
        }
        return (int) sum;
    }

    int equityByTrades(int member) {
        argument(in(member, 0, 4));
        return (int) (flows[member]
                + deals.stream().mapToLong(d -> d.signed(member) * (prices[d.product] - d.price)).sum());
    }

    int margin(int member) {
        argument(in(member, 0, 4));
        long worst = 0;
        for (int k = 0; k < 4; k++) {
            long sum = 0;
            for (int p = 0; p < 3; p++) {
                long b = position(member, p) + resting(member, p, true);
                long s = position(member, p) - resting(member, p, false);
                sum += Math.max(-b * moves[k][p], -s * moves[k][p]);
            }
            worst = Math.max(worst, sum);
        }
        return (int) worst;
    }

    private long resting(int member, int product, boolean buys) {
        return book(product, buys).stream().filter(t -> t.member == member).mapToLong(t -> t.rest).sum();
    }

    int collateral(int member) {
        argument(in(member, 0, 4));
        int sum = 0;
        for (int kind = 0; kind < 2; kind++) {
            List<Integer> all = kindPrices.get(kind);
            sum += (int) Math.floorDiv((long) units[member][kind] * all.get(all.size() - 1) * (100 - haircut(kind)), 100L);
        }
        return sum;
    }

    int free(int member) {
        return equity(member) + collateral(member) - margin(member);
    }

    int share(int member) {
        argument(in(member, 0, 4));
        return (int) shares[member];
    }

    int unpaid() {
        return (int) unpaid;
    }
}
