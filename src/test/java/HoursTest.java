/** Promises 13 to 17 and 27: calls, closing out, failing, what the fund pays. */
public final class HoursTest {
    public static void main(String[] args) {
        promise14And16Calls();
        promise14CallsEnd();
        promise14RestingOrdersFreed();
        promise14GreaterRiskFirst();
        promise14EqualRisks();
        promise14NegativeRisks();
        promise14ClosedUntilFree();
        promise14WhateverTheLimit();
        promise14PositionOfOne();
        promise17TakenOver();
        promise17TakersChange();
        promise13TakingOverIsATrade();
        promise14InOrderOfMembers();
        promise26OwnShareFirst();
        promise26InProportion();
        promise26Rounding();
        promise26RoundingGoesOn();
        promise26JustEnough();
        promise26MemberZeroPaysToo();
        promise27Unpaid();
        promise17CollateralSold();
        promise26FailedSharesAreLeftAlone();
        promise17FailedHasNoOrders();
        Check.end();
    }

    private static void trade(MarginCourt court, int buyer, int seller, int product, int price, int quantity) {
        court.place(seller, product, false, price, quantity);
        court.place(buyer, product, true, price, quantity);
    }

    private static int hours(MarginCourt court, int hours) {
        int failures = 0;
        for (int i = 0; i < hours; i++) {
            failures += court.hour();
        }
        return failures;
    }

    private static void promise14And16Calls() {
        MarginCourt court = new MarginCourt();
        trade(court, 0, 1, 0, 100, 10);
        court.hour();
        Check.due("0 free is no call", court.called(0), -1);
        court.tell(0, 99);
        Check.due("no call ahead of the hour", court.called(0), -1);
        Check.due("first hour", court.hour(), 0);
        Check.due("called", court.called(0), 0);
        Check.due("the winner is not", court.called(1), -1);
        Check.due("second hour", court.hour(), 0);
        Check.due("called since an hour", court.called(0), 1);
        Check.due("not failed yet", court.hasFailed(0), false);
        Check.due("third hour", court.hour(), 1);
        Check.due("not called any more", court.called(0), -1);
        Check.due("failed", court.hasFailed(0), true);
        Check.due("fourth hour", court.hour(), 0);
        Check.due("a failed one is not called", court.called(0), -1);
        Check.illegal("called(-1)", () -> court.called(-1));
        Check.illegal("called(5)", () -> court.called(5));
        Check.illegal("hasFailed(-1)", () -> court.hasFailed(-1) ? 1 : 0);
        Check.illegal("hasFailed(5)", () -> court.hasFailed(5) ? 1 : 0);
    }

    private static void promise14CallsEnd() {
        MarginCourt court = new MarginCourt();
        trade(court, 0, 1, 0, 100, 10);
        court.tell(0, 99);
        hours(court, 2);
        court.pay(0, 10);
        Check.due("paying alone does not end the call", court.called(0), 1);
        court.hour();
        Check.due("the hour does", court.called(0), -1);
        court.tell(0, 98);
        court.hour();
        Check.due("a new call begins at 0", court.called(0), 0);
        court.tell(0, 100);
        court.hour();
        Check.due("and ends", court.called(0), -1);
        Check.due("nobody failed", court.hasFailed(0), false);
    }

    private static void promise14RestingOrdersFreed() {
        MarginCourt court = new MarginCourt();
        court.setMove(0, 0, -10);
        court.place(0, 0, true, 100, 5);
        court.place(0, 1, false, 100, 5);
        court.place(1, 1, false, 120, 5);
        Check.due("no member fails", hours(court, 3), 0);
        Check.due("own orders are cancelled", court.left(0), 0);
        Check.due("those for other products too", court.left(1), 0);
        Check.due("those of others stay", court.left(2), 5);
        Check.due("not called any more", court.called(0), -1);
        Check.due("not failed", court.hasFailed(0), false);
        Check.due("a new order", court.place(0, 0, true, 100, 5), 3);
    }

    /** Member 0 is long 10 in products 0 and 2, and member 4 has orders to buy both from it. */
    private static MarginCourt twoLongs(int firstMove, int firstChange, int secondMove, int secondChange) {
        MarginCourt court = new MarginCourt();
        trade(court, 0, 1, 0, 100, 10);
        trade(court, 0, 1, 2, 100, 10);
        court.setMove(firstMove, 0, firstChange);
        court.setMove(secondMove, 2, secondChange);
        court.pay(4, 10000);
        court.place(4, 0, true, 100, 10);
        court.place(4, 2, true, 100, 10);
        return court;
    }

    private static void promise14GreaterRiskFirst() {
        MarginCourt court = twoLongs(1, -10, 3, -11);
        court.pay(0, 100);
        Check.due("free", court.free(0), -10);
        Check.due("no member fails", hours(court, 3), 0);
        Check.due("greater risk is closed", court.position(0, 2), 0);
        Check.due("then something is free", court.position(0, 0), 10);
        Check.due("the taker", court.position(4, 2), 10);
        Check.due("free then", court.free(0), 0);
        MarginCourt other = twoLongs(0, -11, 3, -10);
        other.pay(0, 100);
        hours(other, 3);
        Check.due("the other way round", other.position(0, 0), 0);
        Check.due("the other way round, kept", other.position(0, 2), 10);
    }

    private static void promise14EqualRisks() {
        MarginCourt court = twoLongs(1, -10, 1, -10);
        court.pay(0, 150);
        Check.due("free", court.free(0), -50);
        Check.due("no member fails", hours(court, 3), 0);
        Check.due("the lower one first", court.position(0, 0), 0);
        Check.due("then something is free", court.position(0, 2), 10);
        MarginCourt both = twoLongs(0, -10, 2, -10);
        both.pay(0, 99);
        Check.due("free", both.free(0), -1);
        Check.due("no member fails", hours(both, 3), 0);
        Check.due("closing one leaves the margin", both.position(0, 0), 0);
        Check.due("so that both are closed", both.position(0, 2), 0);
    }

    private static void promise14NegativeRisks() {
        MarginCourt court = new MarginCourt();
        trade(court, 0, 1, 0, 100, 10);
        trade(court, 0, 1, 1, 100, 10);
        for (int move = 0; move < 4; move++) {
            court.setMove(move, 0, 9 + move);
            court.setMove(move, 1, 4 + move);
        }
        court.pay(1, 1000);
        court.pay(2, 5000);
        court.place(2, 0, true, 100, 10);
        court.place(2, 1, true, 100, 10);
        court.tell(2, 100);
        court.tell(0, 99);
        court.tell(1, 99);
        Check.due("free", court.free(0), -20);
        court.pay(0, 10);
        Check.due("no member fails", hours(court, 3), 0);
        Check.due("the risk -40 is the greater one", court.position(0, 1), 0);
        Check.due("the risk -90 comes behind", court.position(0, 0), 10);
    }

    private static void promise14ClosedUntilFree() {
        MarginCourt court = new MarginCourt();
        court.setMove(0, 1, 10);
        trade(court, 1, 0, 1, 100, 20);
        court.pay(0, 150);
        court.pay(1, 1000);
        court.place(2, 1, false, 101, 3);
        court.place(3, 1, false, 100, 4);
        court.place(0, 1, false, 99, 1);
        court.pay(2, 1000);
        court.pay(3, 1000);
        Check.due("no member fails", hours(court, 3), 0);
        Check.due("closed as far as orders rest", court.position(0, 1), -13);
        Check.due("best one, whole", court.left(3), 0);
        Check.due("next one, whole", court.left(2), 0);
        Check.due("own one was cancelled", court.left(4), 0);
        Check.due("each at its limit", court.equity(0), 150 - 3);
        Check.due("trades", court.trades(), 3);
        Check.due("something is free", court.free(0), 17);
    }

    private static void promise14WhateverTheLimit() {
        MarginCourt court = new MarginCourt();
        trade(court, 0, 1, 0, 100, 10);
        court.pay(1, 9000);
        court.pay(2, 9000);
        court.place(2, 0, true, 1, 6);
        court.place(2, 0, true, 2, 3);
        court.tell(0, 99);
        Check.due("fails", hours(court, 3), 1);
        Check.due("sold for 1 and 2, the rest taken over at the price", court.unpaid(), 1000 - 6 - 6 - 99);
        Check.due("the most free takes over", court.position(2, 0), 9 + 1);
        Check.due("trades", court.trades(), 4);
        Check.due("cash", court.cash(0), 0);
        Check.due("equityByTrades", court.equityByTrades(0), 0);
    }

    private static void promise14PositionOfOne() {
        MarginCourt court = new MarginCourt();
        trade(court, 0, 1, 0, 100, 1);
        trade(court, 1, 0, 1, 100, 1);
        court.setMove(0, 0, -10);
        court.setMove(0, 1, 5);
        court.pay(2, 2000);
        court.place(2, 0, true, 100, 100);
        court.place(2, 1, false, 100, 100);
        Check.due("no member fails", hours(court, 3), 0);
        Check.due("long one is closed", court.position(0, 0), 0);
        Check.due("short one is closed", court.position(0, 1), 0);
        Check.due("no more than that: to buy", court.left(4), 99);
        Check.due("no more than that: to sell", court.left(5), 99);
    }

    private static void promise17TakenOver() {
        MarginCourt court = new MarginCourt();
        trade(court, 0, 1, 0, 100, 10);
        trade(court, 2, 0, 1, 100, 5);
        court.pay(1, 50);
        court.pay(2, 50);
        court.pay(3, 100);
        court.pay(4, 160);
        court.setMove(0, 2, 1);
        court.place(4, 2, false, 100, 60);
        court.tell(0, 99);
        Check.due("fails", hours(court, 3), 1);
        Check.due("equal ones: the lower number", court.position(3, 0), 10);
        Check.due("the other position too", court.position(3, 1), -5);
        Check.due("member 4 has no more free", court.position(4, 0), 0);
        Check.due("none left", court.position(0, 0), 0);
        Check.due("none left", court.position(0, 1), 0);
        Check.due("at the price", court.equity(3), 100);
        Check.due("trades", court.trades(), 4);
        Check.due("unpaid", court.unpaid(), 10);
    }

    private static void promise17TakersChange() {
        MarginCourt court = new MarginCourt();
        trade(court, 0, 1, 0, 100, 10);
        trade(court, 0, 1, 1, 100, 10);
        trade(court, 0, 1, 2, 100, 10);
        court.setMove(0, 0, -10);
        court.pay(2, 500);
        court.pay(3, 450);
        Check.due("fails", hours(court, 3), 1);
        Check.due("the lowest product first", court.position(2, 0), 10);
        Check.due("then member 3 has the most", court.position(3, 1), 10);
        Check.due("and still", court.position(3, 2), 10);
    }

    /** The position of the last one is 0, as all positions for a product are 0 together. */
    private static void promise13TakingOverIsATrade() {
        MarginCourt court = new MarginCourt();
        for (int m = 1; m < 5; m++) {
            trade(court, m, 0, 0, 100, 10);
        }
        court.tell(0, 99);
        Check.due("four fail", hours(court, 3), 4);
        Check.due("one is left, and takes all back", court.position(0, 0), 0);
        Check.due("trades", court.trades(), 4 + 4);
        Check.due("unpaid", court.unpaid(), 40);
        Check.due("equity", court.equity(0), 40);
        Check.due("equityByTrades", court.equityByTrades(0), 40);
    }

    private static void promise14InOrderOfMembers() {
        MarginCourt rising = new MarginCourt();
        rising.setMove(0, 0, -50);
        trade(rising, 0, 4, 0, 100, 10);
        rising.pay(1, 100);
        Check.due("fails", hours(rising, 3), 1);
        Check.due("member 1 takes over", rising.position(1, 0), 10);
        Check.due("and is called in the same hour", rising.called(1), 0);
        MarginCourt falling = new MarginCourt();
        falling.setMove(0, 0, -50);
        trade(falling, 3, 4, 0, 100, 10);
        falling.pay(1, 100);
        Check.due("fails", hours(falling, 3), 1);
        Check.due("member 1 takes over", falling.position(1, 0), 10);
        Check.due("too late for this hour", falling.called(1), -1);
        falling.hour();
        Check.due("called in the next", falling.called(1), 0);
    }

    /** Member 0 fails by a loss; member 1 wins it. */
    private static void loseWithFund(MarginCourt court, int loss, int... shares) {
        for (int m = 0; m < shares.length; m++) {
            if (shares[m] > 0) {
                court.contribute(m, shares[m]);
            }
        }
        trade(court, 0, 1, 0, 100 + loss, 1);
        Check.due("member 0 fails", hours(court, 3), 1);
        Check.due("its cash is 0", court.cash(0), 0);
        Check.due("its equity is 0", court.equity(0), 0);
        Check.due("its equity by trades is 0", court.equityByTrades(0), 0);
    }

    private static void dueShares(String what, MarginCourt court, int... shares) {
        for (int m = 0; m < shares.length; m++) {
            Check.due(what + ": share of " + m, court.share(m), shares[m]);
        }
    }

    private static void promise26OwnShareFirst() {
        MarginCourt court = new MarginCourt();
        loseWithFund(court, 25, 30, 300, 500, 200, 0);
        dueShares("own share", court, 5, 300, 500, 200, 0);
        MarginCourt all = new MarginCourt();
        loseWithFund(all, 30, 30, 300, 500, 200, 0);
        dueShares("own share, all of it", all, 0, 300, 500, 200, 0);
        Check.due("unpaid", court.unpaid() + all.unpaid(), 0);
    }

    private static void promise26InProportion() {
        MarginCourt court = new MarginCourt();
        loseWithFund(court, 130, 30, 300, 500, 200, 0);
        dueShares("in proportion", court, 0, 270, 450, 180, 0);
        Check.due("unpaid", court.unpaid(), 0);
        Check.due("the cash of others stays", court.cash(2), 0);
        Check.due("the equity of others stays", court.equityByTrades(2), 0);
    }

    private static void promise26Rounding() {
        MarginCourt court = new MarginCourt();
        loseWithFund(court, 20, 0, 10, 10, 10, 0);
        dueShares("the lowest pays what rounding left", court, 0, 2, 4, 4, 0);
        MarginCourt without = new MarginCourt();
        loseWithFund(without, 20, 0, 0, 10, 10, 10);
        dueShares("the lowest one that has something", without, 0, 0, 2, 4, 4);
        Check.due("unpaid", court.unpaid() + without.unpaid(), 0);
    }

    private static void promise26RoundingGoesOn() {
        MarginCourt court = new MarginCourt();
        loseWithFund(court, 2, 0, 1, 1, 1, 0);
        dueShares("one after the other", court, 0, 0, 0, 1, 0);
        MarginCourt three = new MarginCourt();
        loseWithFund(three, 3, 0, 1, 1, 1, 1);
        dueShares("as far as they have", three, 0, 0, 0, 0, 1);
        Check.due("unpaid", court.unpaid() + three.unpaid(), 0);
    }

    private static void promise26JustEnough() {
        MarginCourt court = new MarginCourt();
        loseWithFund(court, 37, 7, 11, 0, 13, 6);
        dueShares("all of it", court, 0, 0, 0, 0, 0);
        Check.due("unpaid", court.unpaid(), 0);
        MarginCourt almost = new MarginCourt();
        loseWithFund(almost, 36, 7, 11, 0, 13, 6);
        dueShares("29 of 30", almost, 0, 0, 0, 0, 1);
        Check.due("unpaid", almost.unpaid(), 0);
        MarginCourt more = new MarginCourt();
        loseWithFund(more, 38, 7, 11, 0, 13, 6);
        dueShares("all of it", more, 0, 0, 0, 0, 0);
        Check.due("unpaid", more.unpaid(), 1);
    }

    private static void promise26MemberZeroPaysToo() {
        MarginCourt court = new MarginCourt();
        court.contribute(0, 10);
        court.contribute(1, 10);
        court.contribute(3, 10);
        trade(court, 2, 4, 0, 120, 1);
        Check.due("member 2 fails", hours(court, 3), 1);
        dueShares("the lowest pays what rounding left", court, 2, 4, 0, 4, 0);
        MarginCourt alone = new MarginCourt();
        alone.contribute(0, 1);
        trade(alone, 4, 3, 0, 101, 1);
        Check.due("member 4 fails", hours(alone, 3), 1);
        dueShares("one alone", alone, 0, 0, 0, 0, 0);
        Check.due("unpaid", court.unpaid() + alone.unpaid(), 0);
    }

    private static void promise27Unpaid() {
        MarginCourt court = new MarginCourt();
        loseWithFund(court, 50);
        Check.due("without a fund", court.unpaid(), 50);
        court.contribute(1, 100000);
        Check.due("for good", court.unpaid(), 50);
        Check.due("the fund is not asked later", court.share(1), 100000);
        hours(court, 3);
        Check.due("once", court.unpaid(), 50);
        MarginCourt twice = new MarginCourt();
        trade(twice, 2, 4, 0, 107, 1);
        trade(twice, 3, 4, 1, 102, 1);
        Check.due("two fail", hours(twice, 3), 2);
        Check.due("both losses", twice.unpaid(), 9);
    }

    private static void promise26FailedSharesAreLeftAlone() {
        MarginCourt court = new MarginCourt();
        loseWithFund(court, 25, 30, 0, 8, 0, 0);
        trade(court, 3, 1, 2, 110, 1);
        Check.due("member 3 fails", hours(court, 3), 1);
        dueShares("the share of a failed one is not asked", court, 5, 0, 0, 0, 0);
        Check.due("unpaid", court.unpaid(), 2);
    }

    private static void promise17CollateralSold() {
        MarginCourt court = new MarginCourt();
        court.bring(0, 0, 1);
        court.bring(0, 1, 1);
        court.tellKind(1, 99);
        Check.due("collateral", court.collateral(0), 90 + 87);
        loseWithFund(court, 200, 20);
        Check.due("sold with its haircut", court.unpaid(), 200 - 177 - 20);
        Check.due("no units", court.collateral(0), 0);
        MarginCourt rich = new MarginCourt();
        rich.setMove(0, 0, -50);
        rich.pay(0, 30);
        rich.bring(0, 0, 1);
        rich.contribute(0, 5);
        trade(rich, 0, 1, 0, 100, 10);
        Check.due("fails for its margin", hours(rich, 3), 1);
        Check.due("cash stays, and what was sold", rich.cash(0), 120);
        Check.due("equity", rich.equity(0), 120);
        Check.due("equityByTrades", rich.equityByTrades(0), 120);
        Check.due("free", rich.free(0), 120);
        Check.due("the fund is not asked", rich.share(0), 5);
        Check.due("no units", rich.collateral(0), 0);
    }

    private static void promise17FailedHasNoOrders() {
        MarginCourt court = new MarginCourt();
        court.place(0, 1, false, 105, 4);
        court.place(0, 2, true, 95, 4);
        loseWithFund(court, 10);
        Check.due("cancelled", court.left(0), 0);
        Check.due("cancelled too", court.left(1), 0);
        Check.due("only the winner's cash changes in the evening", court.evening(), 10);
    }
}
