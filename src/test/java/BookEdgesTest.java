import java.util.NoSuchElementException;

/** Orders, trades and positions where the document's sentences turn: just meeting, just filled, just the best. */
public final class BookEdgesTest {
    public static void main(String[] args) {
        aLimitThatJustMeets();
        theLesserQuantityOfBoth();
        asLongAsSomeOfItIsLeft();
        ofSeveralTheLowestNumber();
        theOwnOneThatIsTheBest();
        theOwnOneThatIsNotReached();
        atTheLimitOfTheRestingOne();
        thePositionsOfBoth();
        haltCancelsAllThatRest();
        noTradeYet();
        allOrdersInOneTrade();
        theLastOfAllCalls();
        callsBehindTheLast();
        Check.end();
    }

    private static void aLimitThatJustMeets() {
        for (int beside = -1; beside <= 1; beside++) {
            MarginCourt sold = new MarginCourt();
            sold.place(0, 0, false, 100, 5);
            sold.place(1, 0, true, 100 + beside, 5);
            Check.due("to buy at " + beside, sold.trades(), beside < 0 ? 0 : 1);
            Check.due("what rests, to buy at " + beside, sold.left(1), beside < 0 ? 5 : 0);
            MarginCourt bought = new MarginCourt();
            bought.place(0, 0, true, 100, 5);
            bought.place(1, 0, false, 100 + beside, 5);
            Check.due("to sell at " + beside, bought.trades(), beside > 0 ? 0 : 1);
            Check.due("what rests, to sell at " + beside, bought.left(1), beside > 0 ? 5 : 0);
        }
    }

    private static void theLesserQuantityOfBoth() {
        int[][] quantities = {{1, 1}, {1, 2}, {2, 1}, {99, 100}, {100, 99}, {100, 100}, {1, 100}, {100, 1}};
        for (int[] pair : quantities) {
            MarginCourt court = new MarginCourt();
            court.place(0, 2, true, 100, pair[0]);
            court.place(1, 2, false, 100, pair[1]);
            int lesser = Math.min(pair[0], pair[1]);
            String what = pair[0] + " and " + pair[1];
            Check.due("bought of " + what, court.position(0, 2), lesser);
            Check.due("sold of " + what, court.position(1, 2), -lesser);
            Check.due("left to buy of " + what, court.left(0), pair[0] - lesser);
            Check.due("left to sell of " + what, court.left(1), pair[1] - lesser);
            dueRests("to buy of " + what, court, true, pair[0] > lesser ? 0 : -1);
            dueRests("to sell of " + what, court, false, pair[1] > lesser ? 1 : -1);
        }
    }

    private static void dueRests(String what, MarginCourt court, boolean buys, int number) {
        if (number >= 0) {
            Check.due("resting " + what, court.best(2, buys), number);
        } else {
            Check.dueThrow("resting " + what, () -> court.best(2, buys), NoSuchElementException.class);
        }
    }

    private static void asLongAsSomeOfItIsLeft() {
        for (int quantity = 9; quantity <= 11; quantity++) {
            MarginCourt court = new MarginCourt();
            court.place(0, 0, false, 100, 5);
            court.place(1, 0, false, 101, 5);
            court.place(2, 0, false, 102, 5);
            court.place(3, 0, true, 102, quantity);
            Check.due("trades for " + quantity, court.trades(), quantity > 10 ? 3 : 2);
            Check.due("the second one for " + quantity, court.left(1), quantity < 10 ? 1 : 0);
            Check.due("the third one for " + quantity, court.left(2), quantity > 10 ? 4 : 5);
            Check.due("the new one for " + quantity, court.left(3), 0);
        }
    }

    private static void ofSeveralTheLowestNumber() {
        MarginCourt court = new MarginCourt();
        for (int m = 0; m < 4; m++) {
            court.place(m, 1, false, 100, 1);
        }
        for (int m = 0; m < 4; m++) {
            Check.due("best of equal ones to sell", court.best(1, false), m);
            court.place(4, 1, true, 100, 1);
            Check.due("filled", court.left(m), 0);
        }
        for (int m = 0; m < 4; m++) {
            court.place(m, 1, true, 100, 1);
        }
        for (int m = 0; m < 4; m++) {
            Check.due("best of equal ones to buy", court.best(1, true), 8 + m);
            court.place(4, 1, false, 100, 1);
            Check.due("filled", court.left(8 + m), 0);
        }
        MarginCourt oneBetter = new MarginCourt();
        oneBetter.place(0, 0, false, 101, 1);
        oneBetter.place(1, 0, false, 100, 1);
        oneBetter.place(0, 0, true, 98, 1);
        oneBetter.place(1, 0, true, 99, 1);
        Check.due("a limit lower by 1 comes ahead of a lower number", oneBetter.best(0, false), 1);
        Check.due("a limit higher by 1 comes ahead of a lower number", oneBetter.best(0, true), 3);
    }

    private static void theOwnOneThatIsTheBest() {
        for (int beside = -1; beside <= 1; beside++) {
            MarginCourt court = new MarginCourt();
            court.place(0, 0, false, 100, 5);
            court.place(0, 0, true, 100 + beside, 3);
            Check.due("own one to sell, to buy at " + beside, court.left(0), beside < 0 ? 5 : 0);
            Check.due("the new one rests whole at " + beside, court.left(1), 3);
            Check.due("no trade at " + beside, court.trades(), 0);
            Check.due("no position at " + beside, court.position(0, 0), 0);
        }
        MarginCourt between = new MarginCourt();
        between.place(1, 0, true, 100, 2);
        between.place(0, 0, true, 100, 50);
        between.place(2, 0, true, 100, 2);
        between.place(0, 0, false, 100, 5);
        Check.due("ahead of it", between.left(0), 0);
        Check.due("the own one is cancelled whole", between.left(1), 0);
        Check.due("behind it", between.left(2), 0);
        Check.due("the new one has lost nothing by it", between.left(3), 1);
        Check.due("only those with others are trades", between.trades(), 2);
    }

    private static void theOwnOneThatIsNotReached() {
        MarginCourt filled = new MarginCourt();
        filled.place(1, 0, false, 100, 5);
        filled.place(0, 0, false, 100, 5);
        filled.place(0, 0, true, 100, 5);
        Check.due("nothing is left when the own one is the best", filled.left(1), 5);
        MarginCourt oneMore = new MarginCourt();
        oneMore.place(1, 0, false, 100, 5);
        oneMore.place(0, 0, false, 100, 5);
        oneMore.place(0, 0, true, 100, 6);
        Check.due("1 is left when the own one is the best", oneMore.left(1), 0);
        Check.due("that 1 rests", oneMore.left(2), 1);
        MarginCourt blocked = new MarginCourt();
        blocked.place(1, 0, false, 101, 5);
        blocked.place(0, 0, false, 102, 5);
        blocked.place(0, 0, true, 100, 5);
        Check.due("the best one does not meet", blocked.left(1), 5);
        MarginCourt sameSide = new MarginCourt();
        sameSide.place(0, 0, true, 100, 5);
        sameSide.place(0, 0, true, 100, 5);
        sameSide.place(0, 1, false, 100, 5);
        Check.due("on the same side", sameSide.left(0), 5);
        Check.due("for another product", sameSide.left(2), 5);
    }

    private static void atTheLimitOfTheRestingOne() {
        MarginCourt court = new MarginCourt();
        court.place(0, 0, false, 1, 100);
        court.place(1, 0, true, 9999, 100);
        Check.due("bought for 1", court.equity(1), 9900);
        Check.due("sold for 1", court.equity(0), -9900);
        court.place(0, 1, true, 9999, 100);
        court.place(1, 1, false, 1, 100);
        Check.due("sold for 9999", court.equity(1), 9900 + 989900);
        Check.due("bought for 9999", court.equity(0), -9900 - 989900);
        Check.due("by trades, too", court.equityByTrades(1), 9900 + 989900);
    }

    private static void thePositionsOfBoth() {
        MarginCourt court = new MarginCourt();
        int[] sold = {1, 1, 2};
        int[] position = {1, 0, -2};
        court.place(1, 0, false, 100, 2);
        court.place(0, 0, true, 100, 2);
        for (int i = 0; i < sold.length; i++) {
            court.place(1, 0, true, 100, sold[i]);
            court.place(0, 0, false, 100, sold[i]);
            Check.due("from above 0 to below: " + i, court.position(0, 0), position[i]);
            Check.due("from below 0 to above: " + i, court.position(1, 0), -position[i]);
        }
        Check.due("those of others", court.position(2, 0), 0);
        Check.due("in other products", court.position(0, 1), 0);
    }

    private static void haltCancelsAllThatRest() {
        MarginCourt court = new MarginCourt();
        Check.due("an empty book", court.halt(0, true), 0);
        Check.due("goes on", court.halt(0, false), 0);
        court.place(0, 0, true, 50, 5);
        Check.due("one order", court.halt(0, true), 1);
        Check.due("none any more", court.halt(0, true), 0);
        court.halt(0, false);
        court.place(0, 0, true, 50, 5);
        court.place(1, 0, false, 50, 4);
        Check.due("one with 1 left, none that is filled", court.halt(0, true), 1);
        court.halt(0, false);
        Check.due("what was cancelled does not come back", court.left(2), 0);
        MarginCourt full = new MarginCourt();
        for (int i = 0; i < 100; i++) {
            full.place(i % 5, 2, i % 2 == 0, i % 2 == 0 ? 50 : 60, 1);
        }
        Check.due("letting go on cancels none", full.halt(2, false), 0);
        Check.due("other products", full.halt(0, true) + full.halt(1, true), 0);
        Check.due("all that can be placed", full.halt(2, true), 100);
        Check.due("the first one", full.left(0), 0);
        Check.due("the last one", full.left(99), 0);
    }

    private static void noTradeYet() {
        MarginCourt court = new MarginCourt();
        Check.due("none", court.trades(), 0);
        Steps.trade(court, 0, 1, 0, 100, 1);
        Check.due("one", court.trades(), 1);
        court.evening();
        Check.due("the evening is none", court.trades(), 1);
        court.halt(0, true);
        Check.due("a halt is none", court.trades(), 1);
    }

    private static void allOrdersInOneTrade() {
        MarginCourt court = new MarginCourt();
        for (int i = 0; i < 99; i++) {
            court.place(i % 4, 0, false, 1 + i, 1);
        }
        Check.due("the last number", court.place(4, 0, true, 9999, 100), 99);
        Check.due("as many trades as orders rested", court.trades(), 99);
        Check.due("bought", court.position(4, 0), 99);
        Check.due("what is left rests", court.left(99), 1);
        Check.due("each at its limit", court.equity(4), 9900 - 99 * 100 / 2);
        Check.due("by trades", court.equityByTrades(4), 9900 - 99 * 100 / 2);
        MarginCourt own = new MarginCourt();
        for (int i = 0; i < 99; i++) {
            own.place(4, 0, false, 1 + i, 1);
        }
        own.place(4, 0, true, 9999, 100);
        Check.due("all own ones are cancelled", own.left(0) + own.left(50) + own.left(98), 0);
        Check.due("without a trade", own.trades(), 0);
        Check.due("what is left", own.left(99), 100);
    }

    private static void theLastOfAllCalls() {
        MarginCourt court = new MarginCourt();
        for (int call = 1; call <= 511; call++) {
            court.contribute(4, 100000);
        }
        Check.due("the 512th call", court.share(4), 51100000);
        MarginCourt paid = new MarginCourt();
        for (int call = 1; call <= 511; call++) {
            paid.pay(0, 100000);
        }
        Check.due("the 512th call", paid.equityByTrades(0), 51100000);
    }

    /** What calls behind the 512th answer is free, but the machine throws in none of them. */
    private static void callsBehindTheLast() {
        MarginCourt court = new MarginCourt();
        for (int call = 0; call < 5000; call++) {
            int x = call;
            Check.due("call " + call, isToldOrAnswered(() -> court.place(x % 5, x % 3, x % 2 == 0, 90 + x % 20, 100)), true);
            Check.due("call " + call, isToldOrAnswered(() -> court.pay(x % 5, x % 7 == 0 ? -100000 : 100000)), true);
            Check.due("call " + call, isToldOrAnswered(() -> court.contribute(x % 5, 100000)), true);
            Check.due("call " + call, isToldOrAnswered(() -> court.tell(x % 3, x % 2 == 0 ? 1 : 9999)), true);
            Check.due("call " + call, isToldOrAnswered(court::hour), true);
            Check.due("call " + call, isToldOrAnswered(court::evening), true);
        }
    }

    private static boolean isToldOrAnswered(Check.Call call) {
        try {
            call.answer();
            return true;
        } catch (IllegalStateException thrown) {
            return Check.isFromOwnLines(thrown);
        } catch (RuntimeException thrown) {
            return false;
        }
    }
}
