/** Taking over, selling collateral, sharing losses: ties, exact sums, one more and one less, and nobody left. */
public final class FailureEdgesTest {
    public static void main(String[] args) {
        theMostFreeTakesOver();
        theMostFreeMayLack();
        askedForEachPosition();
        restingOrdersBindTheTaker();
        atThePriceOfTheProduct();
        theFailedOnesTakeNothingOver();
        collateralSoldRoundedDown();
        cashAroundZero();
        ownShareAroundTheLoss();
        sharesOfOthersAroundTheRest();
        proportionRoundedDown();
        theLeastRest();
        theLowestThatHaveSomethingLeft();
        proportionOfGreatSums();
        theLowestMayBeMemberZero();
        sharesOfFailedOnesAreLeftAlone();
        sharesOfFailedOnesDoNotCountInTheProportion();
        aLossOfZeroAsksNobody();
        severalInOneHour();
        allFailInOneHour();
        theLastOneWithAShare();
        unpaidGrowsForGood();
        Check.end();
    }

    /** Member 2 is long 10 and lacks 10, which member 1 has won; all others have as much free as told. */
    private static MarginCourt failing(int... free) {
        MarginCourt court = new MarginCourt();
        Steps.trade(court, 2, 1, 0, 100, 10);
        court.tell(0, 99);
        Steps.hours(court, 2);
        for (int m = 0; m < 5; m++) {
            int lacks = court.free(m) - free[m];
            if (m != 2 && lacks > 0) {
                Steps.bind(court, m, lacks);
            } else if (m != 2) {
                court.pay(m, -lacks);
            }
        }
        return court;
    }

    private static void dueTaker(int taker, int... free) {
        MarginCourt court = failing(free);
        StringBuilder told = new StringBuilder("of");
        for (int m = 0; m < 5; m++) {
            told.append(' ').append(free[m]);
            if (m != 2) {
                Check.due("free of " + m, court.free(m), free[m]);
            }
        }
        Check.due("fails", court.hour(), 1);
        for (int m = 0; m < 5; m++) {
            int before = m == 1 ? -10 : 0;
            Check.due(told + " position of " + m, court.position(m, 0), m == 2 ? 0 : before + (m == taker ? 10 : 0));
        }
        Check.due(told + ", trades", court.trades(), 2);
    }

    private static void theMostFreeTakesOver() {
        dueTaker(0, 5, 5, 0, 5, 5);
        dueTaker(1, 5, 6, 0, 5, 5);
        dueTaker(1, 5, 6, 0, 6, 6);
        dueTaker(3, 5, 5, 0, 6, 6);
        dueTaker(4, 5, 5, 0, 5, 6);
        dueTaker(0, 0, 0, 0, 0, 0);
        dueTaker(4, 0, 0, 0, 0, 1);
    }

    private static void theMostFreeMayLack() {
        dueTaker(0, -1, -1, 0, -1, -1);
        dueTaker(1, -2, -1, 0, -1, -1);
        dueTaker(3, -3, -2, 0, -1, -2);
        dueTaker(4, -1, -1, 0, -1, 0);
    }

    /** The first position takes 10 of what is free, so that another one has the most for the next. */
    private static void askedForEachPosition() {
        for (int second = 89; second <= 91; second++) {
            MarginCourt court = new MarginCourt();
            for (int p = 0; p < 3; p++) {
                Steps.trade(court, 4, 0, p, 100, 1);
            }
            court.tell(0, 99);
            court.setMove(0, 0, -10);
            court.pay(2, 100);
            court.pay(3, second);
            Check.due("fails", Steps.hours(court, 3), 1);
            Check.due("the lowest product first", court.position(2, 0), 1);
            Check.due("member 2 with 90 for product 1, of " + second, court.position(2, 1), second > 90 ? 0 : 1);
            Check.due("member 3 for product 1, of " + second, court.position(3, 1), second > 90 ? 1 : 0);
            Check.due("member 3 for product 2, of " + second, court.position(3, 2), second > 90 ? 1 : 0);
        }
    }

    private static void restingOrdersBindTheTaker() {
        for (int order = 9; order <= 11; order++) {
            MarginCourt court = new MarginCourt();
            Steps.trade(court, 4, 0, 0, 101, 1);
            court.pay(1, 50);
            court.pay(2, 40);
            Steps.bind(court, 1, order);
            Check.due("fails", Steps.hours(court, 3), 1);
            Check.due("member 1, bound by " + order, court.position(1, 0), order > 10 ? 0 : 1);
            Check.due("member 2, if 1 is bound by " + order, court.position(2, 0), order > 10 ? 1 : 0);
        }
    }

    private static void atThePriceOfTheProduct() {
        for (int price = 98; price <= 99; price++) {
            MarginCourt court = new MarginCourt();
            Steps.trade(court, 0, 1, 0, 100, 10);
            Steps.trade(court, 1, 0, 1, 100, 10);
            court.pay(4, 500);
            court.tell(0, price);
            court.tell(1, 101);
            Check.due("fails", Steps.hours(court, 3), 1);
            Check.due("long one at " + price, court.position(4, 0), 10);
            Check.due("short one at 101", court.position(4, 1), -10);
            Check.due("no gain and no loss by it", court.equity(4), 500);
            Check.due("by trades", court.equityByTrades(4), 500);
            Check.due("the loss of the failed one", court.unpaid(), 10 * (101 - price));
            court.tell(0, price + 1);
            Check.due("from then on", court.equity(4), 510);
        }
    }

    private static void theFailedOnesTakeNothingOver() {
        MarginCourt court = new MarginCourt();
        court.pay(0, 400);
        court.setMove(0, 0, -50);
        Steps.trade(court, 0, 1, 0, 100, 10);
        court.pay(1, 10);
        court.pay(3, 20000);
        Check.due("fails, keeping 400", Steps.hours(court, 3), 1);
        Check.due("cash", court.cash(0), 400);
        court.pay(3, -19400);
        Steps.trade(court, 2, 4, 1, 101, 1);
        court.setMove(0, 0, 0);
        court.pay(3, -600);
        court.pay(1, -9);
        Check.due("fails", Steps.hours(court, 3), 1);
        Check.due("not the failed one with 400 free", court.position(0, 1), 0);
        Check.due("but one with 1 free, and of several the lowest number", court.position(1, 1), 1);
    }

    private static void collateralSoldRoundedDown() {
        MarginCourt court = new MarginCourt();
        court.tellKind(0, 101);
        court.tellKind(1, 101);
        court.bring(0, 0, 1);
        court.bring(0, 1, 1);
        Steps.trade(court, 0, 1, 0, 300, 1);
        Check.due("22 lack", court.free(0), -22);
        Check.due("fails", Steps.hours(court, 3), 1);
        Check.due("each kind sold for 89", court.unpaid(), 200 - 178);
        Check.due("none left", court.collateral(0), 0);
        court.tellKind(0, 9999);
        Check.due("nor at another price", court.collateral(0), 0);
    }

    /** Member 0 fails by its margin; what it keeps is the cash and 90 for its unit of collateral. */
    private static void cashAroundZero() {
        for (int beside = -1; beside <= 1; beside++) {
            MarginCourt court = new MarginCourt();
            court.setMove(0, 0, -50);
            court.bring(0, 0, 1);
            court.contribute(0, 10);
            court.contribute(1, 10);
            Steps.trade(court, 0, 1, 0, 190 - beside, 1);
            Check.due("fails", Steps.hours(court, 3), 1);
            Check.due("cash, besides " + beside, court.cash(0), Math.max(0, beside));
            Check.due("equity, besides " + beside, court.equity(0), Math.max(0, beside));
            Check.due("by trades, besides " + beside, court.equityByTrades(0), Math.max(0, beside));
            Check.due("own share, besides " + beside, court.share(0), beside < 0 ? 9 : 10);
            Check.due("the other's share, besides " + beside, court.share(1), 10);
            Check.due("unpaid, besides " + beside, court.unpaid(), 0);
        }
    }

    /** Member 0 fails with a loss, which member 4 has won. */
    private static MarginCourt lost(int loss, int... shares) {
        MarginCourt court = new MarginCourt();
        for (int m = 0; m < 5; m++) {
            for (int open = shares[m]; open > 0; open -= 100000) {
                court.contribute(m, Math.min(open, 100000));
            }
        }
        Steps.trade(court, 0, 4, 0, 100 + loss, 1);
        Check.due("fails with " + loss, Steps.hours(court, 3), 1);
        Check.due("cash of the failed one", court.cash(0), 0);
        Check.due("by trades", court.equityByTrades(0), 0);
        Check.due("the winner keeps it", court.equity(4), loss);
        return court;
    }

    private static void dueFund(int unpaid, MarginCourt court, int... shares) {
        Steps.dueShares("unpaid " + unpaid, court, shares);
        Check.due("unpaid", court.unpaid(), unpaid);
    }

    private static void ownShareAroundTheLoss() {
        dueFund(0, lost(49, 50, 10, 0, 0, 0), 1, 10, 0, 0, 0);
        dueFund(0, lost(50, 50, 10, 0, 0, 0), 0, 10, 0, 0, 0);
        dueFund(0, lost(51, 50, 10, 0, 0, 0), 0, 9, 0, 0, 0);
        dueFund(0, lost(1, 1, 0, 0, 0, 0), 0, 0, 0, 0, 0);
        dueFund(1, lost(1, 0, 0, 0, 0, 0), 0, 0, 0, 0, 0);
        dueFund(1, lost(2, 1, 0, 0, 0, 0), 0, 0, 0, 0, 0);
    }

    private static void sharesOfOthersAroundTheRest() {
        dueFund(0, lost(59, 0, 10, 20, 0, 30), 0, 0, 0, 0, 1);
        dueFund(0, lost(60, 0, 10, 20, 0, 30), 0, 0, 0, 0, 0);
        dueFund(1, lost(61, 0, 10, 20, 0, 30), 0, 0, 0, 0, 0);
        dueFund(0, lost(64, 5, 10, 20, 0, 30), 0, 0, 0, 0, 1);
        dueFund(0, lost(65, 5, 10, 20, 0, 30), 0, 0, 0, 0, 0);
        dueFund(1, lost(66, 5, 10, 20, 0, 30), 0, 0, 0, 0, 0);
        dueFund(9898, lost(9899, 0, 0, 0, 1, 0), 0, 0, 0, 0, 0);
    }

    private static void proportionRoundedDown() {
        dueFund(0, lost(9, 0, 30, 30, 30, 0), 0, 27, 27, 27, 0);
        dueFund(0, lost(10, 0, 30, 30, 30, 0), 0, 26, 27, 27, 0);
        dueFund(0, lost(11, 0, 30, 30, 30, 0), 0, 25, 27, 27, 0);
        dueFund(0, lost(12, 0, 30, 30, 30, 0), 0, 26, 26, 26, 0);
        dueFund(0, lost(13, 3, 1, 2, 3, 14), 0, 0, 1, 2, 7);
    }

    private static void theLeastRest() {
        dueFund(0, lost(1, 0, 500, 500, 500, 500), 0, 499, 500, 500, 500);
        dueFund(0, lost(1, 0, 0, 500, 500, 500), 0, 0, 499, 500, 500);
        dueFund(0, lost(1, 0, 0, 0, 0, 500), 0, 0, 0, 0, 499);
        dueFund(0, lost(1, 0, 1, 999, 0, 0), 0, 0, 999, 0, 0);
    }

    private static void theLowestThatHaveSomethingLeft() {
        dueFund(0, lost(1, 0, 1, 1, 1, 1), 0, 0, 1, 1, 1);
        dueFund(0, lost(2, 0, 1, 1, 1, 1), 0, 0, 0, 1, 1);
        dueFund(0, lost(3, 0, 1, 1, 1, 1), 0, 0, 0, 0, 1);
        dueFund(0, lost(4, 0, 1, 1, 1, 1), 0, 0, 0, 0, 0);
        dueFund(0, lost(5, 0, 1, 1, 1, 3), 0, 0, 0, 0, 1);
        dueFund(0, lost(6, 0, 1, 2, 2, 2), 0, 0, 0, 0, 1);
        dueFund(0, lost(3, 0, 1, 0, 2, 2), 0, 0, 0, 1, 1);
    }

    private static void proportionOfGreatSums() {
        dueFund(0, lost(9899, 0, 300000, 200000, 400000, 100000), 0, 300000 - 2969 - 3, 200000 - 1979, 400000 - 3959,
                100000 - 989);
    }

    /** Member 4 fails, so that all others can pay. */
    private static MarginCourt lostByTheLast(int loss, int... shares) {
        MarginCourt court = new MarginCourt();
        for (int m = 0; m < 5; m++) {
            if (shares[m] > 0) {
                court.contribute(m, shares[m]);
            }
        }
        Steps.trade(court, 4, 3, 0, 100 + loss, 1);
        Check.due("fails with " + loss, Steps.hours(court, 3), 1);
        return court;
    }

    private static void theLowestMayBeMemberZero() {
        dueFund(0, lostByTheLast(8, 10, 10, 10, 10, 0), 8, 8, 8, 8, 0);
        dueFund(0, lostByTheLast(9, 10, 10, 10, 10, 0), 7, 8, 8, 8, 0);
        dueFund(0, lostByTheLast(11, 10, 10, 10, 10, 0), 5, 8, 8, 8, 0);
        dueFund(0, lostByTheLast(3, 1, 1, 1, 1, 0), 0, 0, 0, 1, 0);
        dueFund(0, lostByTheLast(12, 10, 0, 0, 0, 2), 0, 0, 0, 0, 0);
        dueFund(1, lostByTheLast(13, 10, 0, 0, 0, 2), 0, 0, 0, 0, 0);
    }

    /** Member 0 fails first and keeps 7 of its share; then member 2 fails, by a loss that is rounded. */
    private static void sharesOfFailedOnesAreLeftAlone() {
        int[] losses = {1, 5, 6, 7, 9};
        int[] paidByFirst = {1, 3, 3, 3, 3};
        int[] paidByThird = {0, 2, 3, 3, 3};
        for (int i = 0; i < losses.length; i++) {
            MarginCourt court = new MarginCourt();
            court.contribute(0, 8);
            court.contribute(1, 3);
            court.contribute(3, 3);
            Steps.trade(court, 0, 4, 0, 101, 1);
            Check.due("fails with 1", Steps.hours(court, 3), 1);
            Steps.trade(court, 2, 4, 1, 100 + losses[i], 1);
            Check.due("fails with " + losses[i], Steps.hours(court, 3), 1);
            dueFund(Math.max(0, losses[i] - 6), court, 7, 3 - paidByFirst[i], 0, 3 - paidByThird[i], 0);
        }
    }

    /** Member 0 fails first and keeps a share of 20; member 2, that fails then, had none: 1 and 3 pay by 10 to 30. */
    private static void sharesOfFailedOnesDoNotCountInTheProportion() {
        int[] losses = {4, 8, 20, 39, 40, 41};
        int[] paidByFirst = {1, 2, 5, 10, 10, 10};
        for (int i = 0; i < losses.length; i++) {
            MarginCourt court = new MarginCourt();
            court.contribute(0, 25);
            Steps.trade(court, 0, 4, 0, 105, 1);
            Check.due("fails with 5", Steps.hours(court, 3), 1);
            court.contribute(1, 10);
            court.contribute(3, 30);
            Steps.trade(court, 2, 4, 1, 100 + losses[i], 1);
            Check.due("fails with " + losses[i], Steps.hours(court, 3), 1);
            int paidByThird = Math.min(losses[i], 40) - paidByFirst[i];
            dueFund(Math.max(0, losses[i] - 40), court, 20, 10 - paidByFirst[i], 0, 30 - paidByThird, 0);
        }
    }

    private static void aLossOfZeroAsksNobody() {
        MarginCourt court = new MarginCourt();
        court.setMove(0, 0, -50);
        for (int m = 0; m < 5; m++) {
            court.contribute(m, 10 + m);
        }
        Steps.trade(court, 0, 1, 0, 100, 1);
        Check.due("fails by its margin", Steps.hours(court, 3), 1);
        dueFund(0, court, 10, 11, 12, 13, 14);
        Check.due("cash", court.cash(0), 0);
    }

    private static void severalInOneHour() {
        MarginCourt court = new MarginCourt();
        court.contribute(0, 3);
        court.contribute(1, 2);
        court.contribute(2, 4);
        Steps.trade(court, 0, 4, 0, 105, 1);
        Steps.trade(court, 1, 4, 1, 103, 1);
        Check.due("two fail", Steps.hours(court, 3), 2);
        dueFund(0, court, 0, 0, 1, 0, 0);
    }

    /** Members 0 to 2 lose 1 each to 3, and 4 loses 100; 3 keeps what it won, but not enough for its margin. */
    private static MarginCourt allFailing() {
        MarginCourt court = new MarginCourt();
        for (int m = 0; m < 3; m++) {
            Steps.trade(court, m, 3, 0, 101, 1);
        }
        Steps.trade(court, 4, 3, 1, 200, 1);
        court.setMove(2, 0, 500);
        return court;
    }

    private static void allFailInOneHour() {
        MarginCourt court = allFailing();
        Check.due("nobody ahead of the third hour", Steps.hours(court, 2), 0);
        Check.due("all of them", court.hour(), 5);
        for (int m = 0; m < 5; m++) {
            Check.due("has failed: " + m, court.hasFailed(m), true);
            Check.due("called: " + m, court.called(m), -1);
            Check.due("cash: " + m, court.cash(m), m == 3 ? 103 : 0);
            Check.due("equity: " + m, court.equity(m), m == 3 ? 103 : 0);
            Check.due("by trades: " + m, court.equityByTrades(m), m == 3 ? 103 : 0);
            Check.due("positions: " + m, court.position(m, 0) + court.position(m, 1), 0);
        }
        Check.due("by nobody paid", court.unpaid(), 103);
        Check.due("three were handed on, then both of 3 to the last one", court.trades(), 4 + 3 + 2);
        Check.due("nobody is left", Steps.hours(court, 4), 0);
        Check.due("nothing is left to net", court.evening(), 0);
        court.tell(0, 9999);
        Check.due("nor any equity", court.equityByTrades(4), 0);
    }

    private static void theLastOneWithAShare() {
        for (int share = 101; share <= 103; share++) {
            MarginCourt court = allFailing();
            court.contribute(3, 1);
            court.contribute(4, share);
            court.bring(3, 0, 1);
            Check.due("all fail", Steps.hours(court, 3), 5);
            Check.due("share of 3", court.share(3), 0);
            Check.due("share of 4, of " + share, court.share(4), Math.max(0, share - 102));
            Check.due("unpaid, by " + share, court.unpaid(), Math.max(0, 102 - share));
            Check.due("cash of 3", court.cash(3), 193);
        }
    }

    private static void unpaidGrowsForGood() {
        MarginCourt court = new MarginCourt();
        for (int m = 0; m < 3; m++) {
            Steps.trade(court, m, 4, m, 101 + m, 1);
            Check.due("fails: " + m, Steps.hours(court, 3), 1);
            Check.due("unpaid behind " + m, court.unpaid(), (m + 1) * (m + 2) / 2);
            court.pay(4, 50);
            court.evening();
            Check.due("it stays behind " + m, court.unpaid(), (m + 1) * (m + 2) / 2);
        }
        court.contribute(4, 50);
        Steps.hours(court, 3);
        Check.due("no later share pays it", court.unpaid(), 6);
        Check.due("the later share", court.share(4), 50);
        Steps.trade(court, 3, 4, 0, 151, 1);
        Check.due("fails", Steps.hours(court, 3), 1);
        Check.due("but for 1 the share is enough now", court.unpaid(), 7);
    }
}
