/** Hours, calls, closing out and taking over: 0 free and one less, the last hour, the last order, the last member. */
public final class ClosingEdgesTest {
    public static void main(String[] args) {
        calledBelowZero();
        eachPlaceInTheCall();
        closedOutInTheThirdHour();
        ownOrdersMaySuffice();
        ordersPlacedBehindAreKept();
        askedAheadOfEachProduct();
        notAskedBetweenTrades();
        equalRisksInAllProducts();
        risksOfEachMove();
        risksBelowZero();
        noPositionInTheGreatestRisk();
        untilItIsZeroOrNoneIsLeft();
        bestOnesFirst();
        whateverTheirLimits();
        zeroFreeBehindClosing();
        haltedProductCanNotBeClosed();
        Check.end();
    }

    private static MarginCourt holding(int price) {
        MarginCourt court = new MarginCourt();
        Steps.trade(court, 0, 1, 0, 100, 1);
        court.pay(1, 1000);
        court.tell(0, price);
        return court;
    }

    private static void calledBelowZero() {
        for (int price = 99; price <= 101; price++) {
            MarginCourt court = holding(price);
            Check.due("free at " + price, court.free(0), price - 100);
            Check.due("ahead of the hour at " + price, court.called(0), -1);
            Check.due("nobody fails at " + price, court.hour(), 0);
            Check.due("called at " + price, court.called(0), price < 100 ? 0 : -1);
            Check.due("not the other one at " + price, court.called(1), -1);
            Check.due("nor one with nothing at " + price, court.called(4), -1);
        }
    }

    private static void eachPlaceInTheCall() {
        for (int hours = 1; hours <= 2; hours++) {
            for (int price = 99; price <= 101; price++) {
                MarginCourt court = holding(99);
                Steps.hours(court, hours);
                Check.due("called for " + hours, court.called(0), hours - 1);
                court.tell(0, price);
                Check.due("no price ends a call of " + hours, court.called(0), hours - 1);
                court.evening();
                Check.due("nor does the evening", court.called(0), hours - 1);
                int failures = court.hour();
                Check.due("fails at " + price, failures, price < 100 && hours == 2 ? 1 : 0);
                Check.due("called at " + price, court.called(0), price < 100 && hours == 1 ? 1 : -1);
                if (price > 99) {
                    court.tell(0, 99);
                    court.hour();
                    Check.due("a new call begins with 0", court.called(0), 0);
                }
            }
        }
    }

    private static void closedOutInTheThirdHour() {
        MarginCourt court = holding(99);
        court.place(2, 0, true, 100, 5);
        int[] called = {0, 1, -1, -1};
        int[] position = {1, 1, 0, 0};
        for (int i = 0; i < called.length; i++) {
            Check.due("nobody fails in hour " + i, court.hour(), 0);
            Check.due("called behind hour " + i, court.called(0), called[i]);
            Check.due("position behind hour " + i, court.position(0, 0), position[i]);
        }
        Check.due("closed out, not failed", court.hasFailed(0), false);
        Check.due("one trade more", court.trades(), 2);
    }

    /** Member 0 is long 5 by a move of 10, with an order for 1 more: 50 paid in is just enough without it. */
    private static MarginCourt withOwnOrder(int paid) {
        MarginCourt court = new MarginCourt();
        court.setMove(0, 0, -10);
        Steps.trade(court, 0, 1, 0, 100, 5);
        court.place(0, 0, true, 50, 1);
        court.place(2, 0, true, 100, 5);
        court.pay(0, paid);
        court.pay(2, 1000);
        return court;
    }

    private static void ownOrdersMaySuffice() {
        MarginCourt court = withOwnOrder(50);
        Check.due("the order is too much", court.free(0), -10);
        Check.due("nobody fails", Steps.hours(court, 2), 0);
        Check.due("orders rest until closing", court.left(2), 1);
        court.hour();
        Check.due("the own order is cancelled", court.left(2), 0);
        Check.due("0 is free then", court.free(0), 0);
        Check.due("so nothing is closed", court.position(0, 0), 5);
        Check.due("and the call ends", court.called(0), -1);
        MarginCourt oneLess = withOwnOrder(49);
        Steps.hours(oneLess, 3);
        Check.due("with 1 less the position is closed", oneLess.position(0, 0), 0);
        Check.due("not failed", oneLess.hasFailed(0), false);
        MarginCourt enough = withOwnOrder(60);
        Steps.hours(enough, 3);
        Check.due("with 0 free the order stays", enough.left(2), 1);
        Check.due("as the position does", enough.position(0, 0), 5);
    }

    private static void ordersPlacedBehindAreKept() {
        MarginCourt court = withOwnOrder(50);
        Steps.hours(court, 3);
        int order = court.place(0, 0, true, 40, 1);
        Check.due("a new call", court.hour(), 0);
        Check.due("begins with 0", court.called(0), 0);
        Check.due("the order rests", court.left(order), 1);
    }

    /** Member 0 is long 1 in each product at 100 and each can be sold at 99; only a move of a product asks for margin. */
    private static MarginCourt longInAll(int paid, int... changes) {
        MarginCourt court = new MarginCourt();
        for (int p = 0; p < 3; p++) {
            Steps.trade(court, 0, 1, p, 100, 1);
        }
        for (int p = 0; p < 3; p++) {
            court.place(2, p, true, 99, 1);
            court.setMove(p, p, changes[p]);
        }
        court.pay(0, paid);
        court.pay(1, 50000);
        court.pay(2, 50000);
        return court;
    }

    private static void duePositions(String what, MarginCourt court, int... positions) {
        for (int p = 0; p < positions.length; p++) {
            Check.due(what + ", product " + p, court.position(0, p), positions[p]);
        }
    }

    /** The margin is 30, then 20, then 10, then 0, and each closing costs 1. */
    private static void askedAheadOfEachProduct() {
        int[] paid = {30, 29, 21, 20, 12, 11, 3, 2};
        int[] closed = {0, 1, 1, 2, 2, 3, 3, 3};
        for (int i = 0; i < paid.length; i++) {
            MarginCourt court = longInAll(paid[i], -10, -30, -20);
            int failures = Steps.hours(court, 3);
            duePositions("paid " + paid[i], court, closed[i] > 2 ? 0 : 1, closed[i] > 0 ? 0 : 1, closed[i] > 1 ? 0 : 1);
            Check.due("fails, paid " + paid[i], failures, paid[i] < 3 ? 1 : 0);
            Check.due("free, paid " + paid[i], court.free(0),
                    Math.max(0, paid[i] - closed[i] - (30 - 10 * closed[i])));
        }
    }

    private static void notAskedBetweenTrades() {
        MarginCourt court = new MarginCourt();
        court.setMove(0, 0, -10);
        Steps.trade(court, 0, 1, 0, 100, 10);
        court.pay(0, 90);
        for (int m = 2; m < 5; m++) {
            court.pay(m, 1000);
            court.place(m, 0, true, 100, 2);
        }
        court.place(2, 0, true, 100, 3);
        court.hour();
        court.hour();
        Check.due("nobody fails", court.hour(), 0);
        Check.due("though one trade would do, all that rest are taken", court.position(0, 0), 1);
        Check.due("four trades of closing", court.trades(), 1 + 4);
    }

    private static void equalRisksInAllProducts() {
        for (int closed = 1; closed <= 3; closed++) {
            MarginCourt court = new MarginCourt();
            for (int p = 0; p < 3; p++) {
                Steps.trade(court, 0, 1, p, 100, 1);
                court.setMove(0, p, -10);
            }
            for (int p = 0; p < 3; p++) {
                court.place(2, p, true, 100, 1);
            }
            court.pay(1, 1000);
            court.pay(2, 1000);
            court.pay(0, 30 - 10 * closed);
            Check.due("nobody fails", Steps.hours(court, 3), 0);
            duePositions("closing " + closed, court, 0, closed > 1 ? 0 : 1, closed > 2 ? 0 : 1);
        }
    }

    /** Products 0 and 2 are as risky as their greatest moves tell, whichever these are. */
    private static void risksOfEachMove() {
        for (int move = 0; move < 4; move++) {
            for (int beside = -1; beside <= 1; beside++) {
                MarginCourt court = new MarginCourt();
                Steps.trade(court, 1, 0, 0, 100, 10);
                Steps.trade(court, 0, 1, 2, 100, 10);
                court.setMove(move, 2, -20 - beside);
                court.setMove(3 - move, 0, 20);
                court.place(2, 0, false, 100, 10);
                court.place(2, 2, true, 100, 10);
                court.pay(0, beside < 0 ? 190 : beside > 0 ? 200 : 199);
                court.pay(1, 9000);
                court.pay(2, 9000);
                Steps.hours(court, 3);
                String what = "move " + move + " greater by " + beside;
                Check.due(what + ", product 2", court.position(0, 2), beside < 0 ? 10 : 0);
                Check.due(what + ", product 0", court.position(0, 0), beside > 0 ? -10 : 0);
            }
        }
    }

    /** Both positions win by all moves, product 0 by 3 at least and product 1 by what is told, so the margin is 0. */
    private static void risksBelowZero() {
        for (int gain = 2; gain <= 4; gain++) {
            MarginCourt court = new MarginCourt();
            for (int p = 0; p < 2; p++) {
                Steps.trade(court, 0, 1, p, 100, 1);
                for (int move = 0; move < 4; move++) {
                    court.setMove(move, p, (p == 0 ? 3 : gain) + move);
                }
            }
            court.place(2, 0, true, 101, 1);
            court.place(2, 1, true, 101, 1);
            court.tell(0, 99);
            court.pay(1, 9000);
            court.pay(2, 9000);
            Check.due("nobody fails", Steps.hours(court, 3), 0);
            Check.due("product 0, the other one gains " + gain, court.position(0, 0), gain < 3 ? 1 : 0);
            Check.due("product 1, the other one gains " + gain, court.position(0, 1), gain < 3 ? 0 : 1);
        }
    }

    private static void noPositionInTheGreatestRisk() {
        MarginCourt court = new MarginCourt();
        Steps.trade(court, 0, 1, 2, 101, 1);
        court.setMove(0, 0, -500);
        court.setMove(1, 1, 500);
        court.place(2, 0, true, 100, 1);
        court.place(2, 1, false, 100, 1);
        court.place(2, 2, true, 101, 1);
        court.pay(2, 9000);
        Check.due("nobody fails", Steps.hours(court, 3), 0);
        duePositions("only what there is", court, 0, 0, 0);
        Check.due("one trade of closing", court.trades(), 2);
        Check.due("orders for others rest", court.left(2) + court.left(3), 2);
    }

    private static void untilItIsZeroOrNoneIsLeft() {
        for (int resting = 9; resting <= 11; resting++) {
            for (int side = 0; side < 2; side++) {
                boolean isLong = side == 0;
                MarginCourt court = new MarginCourt();
                Steps.trade(court, isLong ? 0 : 1, isLong ? 1 : 0, 0, 100, 10);
                court.place(2, 0, isLong, 100, 4);
                court.place(3, 0, isLong, 100, resting - 4);
                court.setMove(0, 0, isLong ? -10 : 10);
                court.pay(0, 10);
                for (int m = 1; m < 4; m++) {
                    court.pay(m, 9000);
                }
                String what = (isLong ? "long 10, resting " : "short 10, resting ") + resting;
                Check.due(what, Steps.hours(court, 3), 0);
                Check.due(what + ", position", court.position(0, 0), (isLong ? 1 : -1) * Math.max(0, 10 - resting));
                Check.due(what + ", the first one", court.left(2), 0);
                Check.due(what + ", the last one", court.left(3), Math.max(0, resting - 10));
                Check.due(what + ", trades", court.trades(), 3);
                Check.due(what + ", free", court.free(0), resting < 10 ? 0 : 10);
            }
        }
    }

    private static void bestOnesFirst() {
        MarginCourt court = new MarginCourt();
        Steps.trade(court, 0, 1, 0, 100, 3);
        Steps.trade(court, 1, 0, 1, 100, 3);
        int[] limits = {96, 97, 98, 98};
        for (int i = 0; i < limits.length; i++) {
            court.place(2, 0, true, limits[i], 1);
            court.place(2, 1, false, 200 - limits[i], 1);
        }
        court.setMove(0, 0, -100);
        court.setMove(0, 1, 100);
        court.pay(0, 20);
        court.pay(1, 9000);
        court.pay(2, 9000);
        Check.due("nobody fails", Steps.hours(court, 3), 0);
        int[] left = {1, 1, 0, 0, 0, 0, 0, 0};
        for (int i = 0; i < left.length; i++) {
            Check.due("order " + i, court.left(4 + i), left[i]);
        }
        Check.due("each at its limit", court.equity(0), 20 - 2 * (2 + 2 + 3));
        MarginCourt equal = new MarginCourt();
        Steps.trade(equal, 0, 1, 0, 100, 1);
        equal.place(3, 0, true, 100, 1);
        equal.place(2, 0, true, 100, 1);
        equal.setMove(0, 0, -1);
        equal.pay(2, 100);
        equal.pay(3, 100);
        Steps.hours(equal, 3);
        Check.due("of equal ones the lowest number", equal.left(2), 0);
        Check.due("not the lowest member", equal.left(3), 1);
    }

    private static MarginCourt wideBook(int paid) {
        MarginCourt court = new MarginCourt();
        Steps.trade(court, 0, 1, 0, 100, 1);
        Steps.trade(court, 1, 0, 1, 100, 1);
        court.place(2, 0, true, 1, 1);
        court.place(2, 1, false, 9999, 1);
        court.setMove(0, 0, -500);
        court.setMove(0, 1, 500);
        court.pay(0, paid);
        court.pay(1, 9000);
        court.pay(2, 90000);
        return court;
    }

    private static void whateverTheirLimits() {
        MarginCourt first = wideBook(599);
        Check.due("nobody fails", Steps.hours(first, 3), 0);
        duePositions("sold for 1, which leaves 0 free", first, 0, -1, 0);
        MarginCourt court = wideBook(598);
        Check.due("fails by closing both", Steps.hours(court, 3), 1);
        duePositions("both were closed", court, 0, 0, 0);
        Check.due("sold for 1 and bought for 9999", court.unpaid(), 99 + 9899 - 598);
        Check.due("none was taken over", court.trades(), 4);
    }

    private static void zeroFreeBehindClosing() {
        for (int limit = 99; limit <= 101; limit++) {
            MarginCourt court = new MarginCourt();
            Steps.trade(court, 0, 1, 0, 100, 1);
            court.place(2, 0, true, limit, 1);
            court.setMove(0, 0, -1);
            court.pay(2, 100);
            Check.due("fails, sold at " + limit, Steps.hours(court, 3), limit < 100 ? 1 : 0);
            Check.due("has failed, sold at " + limit, court.hasFailed(0), limit < 100);
            Check.due("not called, sold at " + limit, court.called(0), -1);
            Check.due("cash, sold at " + limit, court.cash(0), 0);
            Check.due("equity, sold at " + limit, court.equity(0), Math.max(0, limit - 100));
            Check.due("unpaid, sold at " + limit, court.unpaid(), limit < 100 ? 1 : 0);
            Check.due("none is taken over", court.trades(), 2);
        }
    }

    private static void haltedProductCanNotBeClosed() {
        MarginCourt court = new MarginCourt();
        Steps.trade(court, 0, 1, 0, 100, 1);
        court.place(2, 0, true, 100, 1);
        court.setMove(0, 0, -1);
        court.pay(2, 100);
        Check.due("the order is cancelled", court.halt(0, true), 1);
        Check.due("fails", Steps.hours(court, 3), 1);
        Check.due("taken over all the same", court.position(2, 0), 1);
        Check.due("by a trade", court.trades(), 2);
        Check.due("at the price", court.equity(2), 100);
        Check.badState("still halted", () -> court.place(1, 0, true, 1, 1));
    }
}
