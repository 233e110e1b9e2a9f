/** Margin, haircut, collateral, what is free, evenings: at 0, at the most, and where something is rounded. */
public final class AccountEdgesTest {
    public static void main(String[] args) {
        marginAtLeastZero();
        marginByEachMove();
        marginOfTheGreaterLoss();
        marginOfWhatIsLeft();
        marginOverProducts();
        marginAtItsMost();
        haircutRoundedUp();
        haircutAtMostNinety();
        haircutOfTheLastFourPrices();
        collateralRoundedDown();
        collateralRoundedForEachKind();
        freeAroundZero();
        eveningsAroundZero();
        eveningOfEachMemberAndProduct();
        eveningBehindAFailure();
        paidSumBehindAnEvening();
        equityByTradesOfAllKinds();
        Check.end();
    }

    private static void marginAtLeastZero() {
        for (int change = -1; change <= 1; change++) {
            MarginCourt court = new MarginCourt();
            for (int move = 0; move < 4; move++) {
                court.setMove(move, 0, change);
            }
            Steps.trade(court, 0, 1, 0, 100, 7);
            Check.due("bought, by " + change, court.margin(0), change < 0 ? 7 : 0);
            Check.due("sold, by " + change, court.margin(1), change > 0 ? 7 : 0);
            Check.due("nothing, by " + change, court.margin(2), 0);
        }
    }

    private static void marginByEachMove() {
        for (int move = 0; move < 4; move++) {
            for (int product = 0; product < 3; product++) {
                MarginCourt court = new MarginCourt();
                Steps.trade(court, 3, 4, product, 100, 10);
                court.setMove(move, product, -3);
                Check.due("move " + move + " of product " + product, court.margin(3), 30);
                court.setMove(3 - move, product, -2);
                Check.due("a lesser one beside move " + move, court.margin(3), 30);
                court.setMove(3 - move, product, -4);
                Check.due("a greater one beside move " + move, court.margin(3), 40);
            }
        }
    }

    private static void marginOfTheGreaterLoss() {
        int[][] rests = {{10, 9}, {10, 10}, {9, 10}, {0, 10}, {10, 0}};
        for (int[] rest : rests) {
            MarginCourt court = new MarginCourt();
            court.setMove(0, 1, 2);
            court.setMove(1, 1, -3);
            place(court, 0, true, 90, rest[0]);
            place(court, 0, false, 110, rest[1]);
            int due = Math.max(3 * rest[0], 2 * rest[1]);
            Check.due("to buy and to sell " + rest[0] + ", " + rest[1], court.margin(0), due);
        }
        MarginCourt both = new MarginCourt();
        both.setMove(0, 1, -5);
        Steps.trade(both, 0, 1, 1, 100, 4);
        both.place(0, 1, false, 110, 4);
        Check.due("an order that would end the position does not free it", both.margin(0), 20);
        both.place(0, 1, false, 110, 4);
        Check.due("nor one that would turn it", both.margin(0), 20);
        both.place(1, 1, true, 90, 3);
        Check.due("nor the other one's that would lessen it", both.margin(1), 0);
        both.setMove(0, 1, 5);
        Check.due("the position turned would lose", both.margin(0), 20);
        Check.due("sold 4", both.margin(1), 20);
    }

    private static void place(MarginCourt court, int member, boolean buys, int limit, int quantity) {
        if (quantity > 0) {
            court.place(member, 1, buys, limit, quantity);
        }
    }

    private static void marginOfWhatIsLeft() {
        MarginCourt court = new MarginCourt();
        court.setMove(2, 1, -10);
        court.place(0, 1, true, 100, 3);
        Check.due("all of it", court.margin(0), 30);
        court.place(1, 1, false, 100, 2);
        Check.due("a position of 2, and 1 left", court.margin(0), 30);
        court.cancel(0);
        Check.due("a position of 2", court.margin(0), 20);
        court.place(0, 1, true, 99, 1);
        court.place(0, 1, true, 98, 1);
        Check.due("two orders together", court.margin(0), 40);
        court.halt(1, true);
        Check.due("a halt frees both", court.margin(0), 20);
        court.place(0, 0, true, 99, 50);
        Check.due("another product has no move", court.margin(0), 20);
        court.place(3, 0, false, 120, 50);
        Check.due("another member's orders", court.margin(0), 20);
    }

    private static void marginOverProducts() {
        MarginCourt court = new MarginCourt();
        for (int p = 0; p < 3; p++) {
            Steps.trade(court, 0, 1, p, 100, 10);
        }
        court.setMove(1, 0, -5);
        court.setMove(1, 1, 3);
        court.setMove(1, 2, 2);
        Check.due("a loss and gains as great: 0", court.margin(0), 0);
        court.setMove(1, 2, 1);
        Check.due("gains less by one move", court.margin(0), 10);
        court.setMove(1, 2, 3);
        Check.due("gains greater by one move: at least 0", court.margin(0), 0);
        Check.due("the other side loses by that", court.margin(1), 10);
        court.setMove(2, 1, -1);
        court.setMove(3, 2, -2);
        Check.due("the worst move alone", court.margin(0), 20);
    }

    private static void marginAtItsMost() {
        MarginCourt court = new MarginCourt();
        for (int i = 0; i < 96; i++) {
            court.place(0, i % 3, true, 9999, 100);
        }
        for (int p = 0; p < 3; p++) {
            court.setMove(3, p, -500);
        }
        Check.due("by the greatest fall", court.margin(0), 96 * 100 * 500);
        Check.due("below 0 by as much", court.free(0), -96 * 100 * 500);
        court.setMove(3, 0, 500);
        Check.due("nothing is sold, so a rise takes nothing", court.margin(0), 64 * 100 * 500);
    }

    private static void haircutRoundedUp() {
        int[][] told = {{100, 10}, {101, 11}, {99, 12}, {102, 12}, {98, 13}, {200, 60}, {201, 61}, {199, 60},
            {125, 30}, {124, 30}, {126, 31}};
        for (int[] pair : told) {
            MarginCourt court = new MarginCourt();
            Check.due("from 100 to " + pair[0], court.tellKind(0, pair[0]), pair[1]);
            Check.due("the same asked later", court.haircut(0), pair[1]);
        }
        MarginCourt small = new MarginCourt();
        tellKinds(small, 1, 9999, 9999, 9999, 9999);
        Check.due("1 of 9998 rounds up to 1", small.tellKind(1, 9998), 11);
        Check.due("1 of 9999 rounds up to 1", small.tellKind(1, 9999), 11);
    }

    private static void tellKinds(MarginCourt court, int kind, int... prices) {
        for (int price : prices) {
            court.tellKind(kind, price);
        }
    }

    private static void haircutAtMostNinety() {
        int[][] told = {{178, 88}, {179, 89}, {180, 90}, {181, 90}, {182, 90}, {9999, 90}};
        for (int[] pair : told) {
            MarginCourt court = new MarginCourt();
            court.tellKind(1, pair[0]);
            Check.due("back to 100 from " + pair[0], court.tellKind(1, 100), pair[1]);
        }
        MarginCourt court = new MarginCourt();
        Check.due("up from 100 to 500: 80 percent of it", court.tellKind(1, 500), 90);
        MarginCourt less = new MarginCourt();
        Check.due("up from 100 to 476: 78.9 rounds up to 79", less.tellKind(1, 476), 89);
        MarginCourt more = new MarginCourt();
        Check.due("up from 100 to 477: 79.03 rounds up to 80", more.tellKind(1, 477), 90);
    }

    private static void haircutOfTheLastFourPrices() {
        int[] prices = {110, 110, 110, 110, 100, 100, 100, 100};
        int[] haircuts = {20, 20, 20, 10, 20, 20, 20, 10};
        MarginCourt court = new MarginCourt();
        for (int i = 0; i < prices.length; i++) {
            Check.due("price " + i, court.tellKind(0, prices[i]), haircuts[i]);
        }
        MarginCourt low = new MarginCourt();
        tellKinds(low, 0, 80, 100, 100);
        Check.due("80 is the second of the last four", low.haircut(0), 30);
        Check.due("the first of the last four", low.tellKind(0, 100), 30);
        Check.due("the fifth", low.tellKind(0, 100), 10);
        MarginCourt others = new MarginCourt();
        tellKinds(others, 0, 200, 200, 200, 200);
        Check.due("each kind has its own prices", others.tellKind(1, 100), 10);
        Check.due("100 was the first price of kind 1, too", others.tellKind(1, 125), 30);
    }

    /** A price of 101 behind 100 has a haircut of 11, so a unit counts for 89.89. */
    private static void collateralRoundedDown() {
        int[][] units = {{0, 0}, {1, 89}, {9, 809}, {91, 8179}, {99, 8899}, {100, 8989}, {999, 89800}, {1000, 89890}};
        for (int[] pair : units) {
            MarginCourt court = new MarginCourt();
            court.tellKind(1, 101);
            court.bring(2, 1, pair[0]);
            Check.due("units " + pair[0], court.collateral(2), pair[1]);
        }
        MarginCourt least = new MarginCourt();
        least.bring(2, 0, 9);
        least.tellKind(0, 1);
        Check.due("9 units at 1 by 10 percent", least.collateral(2), 0);
        least.bring(2, 0, 1);
        Check.due("10 units at 1 by 10 percent", least.collateral(2), 1);
        tellKinds(least, 0, 1, 1, 1);
        Check.due("10 units at 1 by 90 percent", least.collateral(2), 9);
    }

    private static void collateralRoundedForEachKind() {
        MarginCourt court = new MarginCourt();
        court.tellKind(0, 101);
        court.tellKind(1, 101);
        court.bring(0, 0, 1);
        court.bring(0, 1, 1);
        Check.due("89.89 twice", court.collateral(0), 178);
        court.bring(0, 0, -1);
        Check.due("one kind alone", court.collateral(0), 89);
        Check.due("another member", court.collateral(1), 0);
    }

    private static void freeAroundZero() {
        for (int beside = -1; beside <= 1; beside++) {
            MarginCourt court = new MarginCourt();
            court.bring(0, 0, 1);
            Steps.trade(court, 0, 1, 0, 100, 10);
            court.pay(0, 10);
            court.tell(0, 101);
            court.setMove(1, 0, -11 + beside);
            Check.due("equity 20, collateral 90, margin " + (110 - 10 * beside), court.free(0), 10 * beside);
            court.contribute(0, 1000);
            Check.due("the share is not free", court.free(0), 10 * beside);
        }
        MarginCourt below = new MarginCourt();
        Steps.trade(below, 0, 1, 0, 101, 1);
        Check.due("1 lacks", below.free(0), -1);
        Check.due("1 is free", below.free(1), 1);
        Check.due("0 is free", below.free(2), 0);
    }

    private static void eveningsAroundZero() {
        MarginCourt court = new MarginCourt();
        Check.due("nothing to net", court.evening(), 0);
        Steps.trade(court, 0, 1, 0, 99, 1);
        Check.due("1 and -1 together", court.evening(), 0);
        Check.due("1", court.cash(0), 1);
        Check.due("-1", court.cash(1), -1);
        Check.due("0", court.cash(2), 0);
        Steps.trade(court, 1, 0, 0, 98, 1);
        Check.due("no position, but a difference", court.evening(), 0);
        Check.due("bought at 99, sold at 98", court.cash(0), -1);
        Check.due("sold at 99, bought at 98", court.cash(1), 1);
        court.tell(0, 9999);
        Check.due("no position, no difference", court.evening(), 0);
        Check.due("the cash stays", court.cash(0), -1);
    }

    private static void eveningOfEachMemberAndProduct() {
        for (int m = 0; m < 5; m++) {
            for (int p = 0; p < 3; p++) {
                MarginCourt court = new MarginCourt();
                int other = (m + 1) % 5;
                Steps.trade(court, m, other, p, 93, 2);
                Check.due("together, member " + m, court.evening(), 0);
                for (int each = 0; each < 5; each++) {
                    int due = each == m ? 14 : each == other ? -14 : 0;
                    Check.due("member " + m + ", product " + p + ", cash of " + each, court.cash(each), due);
                }
            }
        }
    }

    private static void eveningBehindAFailure() {
        for (int price = 99; price <= 101; price++) {
            MarginCourt court = new MarginCourt();
            Steps.trade(court, 0, 1, 0, 101, 1);
            Steps.trade(court, 2, 3, 1, 100, 5);
            Check.due("fails by 1", Steps.hours(court, 3), 1);
            court.tell(1, price);
            Check.due("the winner's 1 alone, at " + price, court.evening(), 1);
            Check.due("the failed one has had its own", court.cash(0), 0);
            Check.due("bought", court.cash(2), 5 * (price - 100));
            Check.due("nothing at once again", court.evening(), 0);
        }
        MarginCourt netted = new MarginCourt();
        netted.setMove(0, 0, -50);
        netted.pay(1, 10);
        Steps.trade(netted, 0, 1, 0, 90, 1);
        Check.due("fails for its margin", Steps.hours(netted, 3), 1);
        Check.due("its difference has gone to the cash", netted.cash(0), 10);
        Check.due("so that the other's loss is left", netted.evening(), -10);
    }

    private static void paidSumBehindAnEvening() {
        MarginCourt court = new MarginCourt();
        Steps.trade(court, 0, 1, 2, 70, 3);
        for (int price = 99; price <= 101; price++) {
            court.evening();
            court.tell(2, price);
            Check.due("equity at " + price, court.equity(0), 3 * (price - 70));
            Check.due("by trades at " + price, court.equityByTrades(0), 3 * (price - 70));
            Check.due("the other side at " + price, court.equity(1), -3 * (price - 70));
        }
        Check.due("cash of the last evening", court.cash(0), 3 * 30);
        court.evening();
        Check.due("cash of this one", court.cash(0), 3 * 31);
        Check.due("the position is kept", court.position(0, 2), 3);
    }

    private static void equityByTradesOfAllKinds() {
        MarginCourt court = new MarginCourt();
        court.pay(0, 20);
        court.bring(0, 0, 1);
        court.contribute(0, 5);
        court.pay(1, 1000);
        Steps.trade(court, 0, 1, 0, 100, 10);
        court.place(1, 0, true, 90, 4);
        court.tell(0, 70);
        Check.due("paid in, one trade", court.equityByTrades(0), 20 - 300);
        Check.due("fails", Steps.hours(court, 3), 1);
        Check.due("closed, taken over, sold, lost and covered", court.equityByTrades(0), 0);
        Check.due("the same", court.equity(0), 0);
        Check.due("both trades at once, and what it took over", court.equityByTrades(1), 1000 + 300 - 80);
        Check.due("the same", court.equity(1), 1000 + 300 - 80);
        court.tell(0, 9999);
        Check.due("no price matters to the failed one", court.equityByTrades(0), 0);
        Check.due("what is unpaid", court.unpaid(), 200 - 90 - 5);
    }
}
