import java.util.function.Consumer;

/**
 * Every argument of every call that has a range: the values at both its edges and beside them
 * inside are taken, those beside them outside are refused and change nothing.
 */
public final class RangesTest {
    private interface CallWith {
        long answer(MarginCourt court, int value);
    }

    public static void main(String[] args) {
        promise02Tell();
        promise03SetMove();
        promise04TellKind();
        promise05Pay();
        promise06Bring();
        promise07Contribute();
        promise08Place();
        promise09And11OrderNumbers();
        promise10And12Products();
        promises16To26Questions();
        Check.end();
    }

    /** Nobody has failed and nothing is halted, so that no state refuses a call; all books have both sides. */
    private static void busy(MarginCourt court) {
        court.tell(0, 103);
        court.tellKind(0, 120);
        court.setMove(1, 0, -10);
        for (int m = 0; m < 5; m++) {
            court.pay(m, 100000);
            court.pay(m, 100000);
            court.bring(m, 0, 1000);
            court.bring(m, 1, m);
            court.contribute(m, 10 + m);
        }
        Steps.trade(court, 0, 1, 0, 101, 20);
        for (int p = 0; p < 3; p++) {
            court.place(2, p, true, 99, 7);
            court.place(3, p, false, 101, 7);
        }
        court.tell(0, 102);
    }

    private static void range(String what, int least, int most, CallWith call) {
        taken(what, RangesTest::busy, call, least, Math.min(least + 1, most), Math.max(most - 1, least), most);
        refused(what, RangesTest::busy, call, least - 1, most + 1, Integer.MIN_VALUE, Integer.MAX_VALUE);
    }

    private static void taken(String what, Consumer<MarginCourt> state, CallWith call, int... values) {
        for (int value : values) {
            MarginCourt court = new MarginCourt();
            state.accept(court);
            Check.due(what + " takes " + value, isTaken(court, value, call), true);
        }
    }

    private static void refused(String what, Consumer<MarginCourt> state, CallWith call, int... values) {
        for (int value : values) {
            Refusal.illegal(what + " refuses " + value, state, court -> call.answer(court, value));
        }
    }

    private static boolean isTaken(MarginCourt court, int value, CallWith call) {
        try {
            call.answer(court, value);
            return true;
        } catch (RuntimeException thrown) {
            return false;
        }
    }

    private static void promise02Tell() {
        range("tell product", 0, 2, (court, x) -> court.tell(x, 50));
        range("tell price", 1, 9999, (court, x) -> court.tell(0, x));
        MarginCourt court = new MarginCourt();
        Check.due("100 at first", court.tell(1, 1), 100);
        Check.due("the least price is kept", court.tell(1, 9999), 1);
        Check.due("the greatest price is kept", court.tell(1, 100), 9999);
    }

    private static void promise03SetMove() {
        range("setMove move", 0, 3, (court, x) -> court.setMove(x, 0, 50));
        range("setMove product", 0, 2, (court, x) -> court.setMove(0, x, 50));
        range("setMove change", -500, 500, (court, x) -> court.setMove(0, 0, x));
        MarginCourt court = new MarginCourt();
        Check.due("0 at first", court.setMove(3, 2, -500), 0);
        Check.due("the least change is kept", court.setMove(3, 2, 500), -500);
        Check.due("the greatest change is kept", court.setMove(3, 2, 0), 500);
    }

    private static void promise04TellKind() {
        range("tellKind kind", 0, 1, (court, x) -> court.tellKind(x, 50));
        range("tellKind price", 1, 9999, (court, x) -> court.tellKind(1, x));
        MarginCourt court = new MarginCourt();
        court.bring(0, 0, 1000);
        Check.due("the least price", court.tellKind(0, 1), 90);
        Check.due("10 percent of 1000 times 1", court.collateral(0), 100);
        Check.due("the greatest price", court.tellKind(0, 9999), 90);
        Check.due("10 percent of 1000 times 9999", court.collateral(0), 999900);
    }

    private static void promise05Pay() {
        range("pay member", 0, 4, (court, x) -> court.pay(x, 50));
        range("pay amount", -100000, 100000, (court, x) -> court.pay(3, x));
        MarginCourt court = new MarginCourt();
        Check.due("the most in", court.pay(4, 100000), 100000);
        Check.due("nothing", court.pay(4, 0), 100000);
        Check.due("the most out", court.pay(4, -100000), 0);
    }

    private static void promise06Bring() {
        range("bring member", 0, 4, (court, x) -> court.bring(x, 1, 1));
        range("bring kind", 0, 1, (court, x) -> court.bring(3, x, -1));
        CallWith brings = (court, x) -> court.bring(3, 0, x);
        taken("bring to none", court -> court.pay(3, 5), brings, 0, 1, 999, 1000);
        taken("take away from all", RangesTest::busy, brings, -1000, -999, -1, 0);
        refused("bring to none", court -> court.pay(3, 5), brings, 1001, Integer.MAX_VALUE);
        refused("take away from all", RangesTest::busy, brings, -1001, Integer.MIN_VALUE);
        MarginCourt court = new MarginCourt();
        Check.due("the most brought", court.bring(4, 1, 1000), 1000);
        Check.due("nothing brought", court.bring(4, 1, 0), 1000);
        Check.due("the most taken away", court.bring(4, 1, -1000), 0);
    }

    private static void promise07Contribute() {
        range("contribute member", 0, 4, (court, x) -> court.contribute(x, 50));
        range("contribute amount", 1, 100000, (court, x) -> court.contribute(3, x));
        MarginCourt court = new MarginCourt();
        Check.due("the least", court.contribute(4, 1), 1);
        Check.due("the most", court.contribute(4, 100000), 100001);
    }

    private static void promise08Place() {
        range("place member", 0, 4, (court, x) -> court.place(x, 0, true, 50, 5));
        range("place product", 0, 2, (court, x) -> court.place(0, x, true, 50, 5));
        range("place limit to buy", 1, 9999, (court, x) -> court.place(0, 1, true, x, 5));
        range("place limit to sell", 1, 9999, (court, x) -> court.place(0, 1, false, x, 5));
        range("place quantity to buy", 1, 100, (court, x) -> court.place(0, 1, true, 101, x));
        range("place quantity to sell", 1, 100, (court, x) -> court.place(0, 1, false, 99, x));
        MarginCourt court = new MarginCourt();
        court.place(0, 0, true, 1, 100);
        court.place(1, 0, false, 9999, 1);
        Check.due("the greatest quantity rests", court.left(0), 100);
        Check.due("the least quantity rests", court.left(1), 1);
        court.place(2, 0, false, 1, 1);
        court.place(2, 0, true, 9999, 1);
        Check.due("the least limit meets its like", court.left(0), 99);
        Check.due("the greatest limit meets its like", court.left(1), 0);
        Check.due("sold for 1, bought for 9999", court.equity(2), 1 - 9999);
    }

    private static void hundredOrders(MarginCourt court) {
        for (int i = 0; i < 100; i++) {
            court.place(i % 5, 0, true, 1 + i, 1);
        }
    }

    private static void promise09And11OrderNumbers() {
        orderNumbers("no order", court -> court.pay(1, 5), 0);
        orderNumbers("one order", court -> court.place(1, 1, true, 5, 5), 1);
        orderNumbers("eight orders", RangesTest::busy, 8);
        orderNumbers("all orders", RangesTest::hundredOrders, 100);
        MarginCourt court = new MarginCourt();
        hundredOrders(court);
        for (int number : new int[] {0, 1, 98, 99}) {
            Check.due("left of " + number, court.left(number), 1);
            Check.due("cancel of " + number, court.cancel(number), 1);
            Check.due("left of the cancelled " + number, court.left(number), 0);
        }
    }

    private static void orderNumbers(String what, Consumer<MarginCourt> state, int placed) {
        if (placed > 0) {
            taken(what + ", left", state, MarginCourt::left, 0, placed - 1);
        }
        for (int number : new int[] {-1, placed, placed + 1, Integer.MIN_VALUE, Integer.MAX_VALUE}) {
            Refusal.outOfBounds(what + ", cancel " + number, state, court -> court.cancel(number));
            Refusal.outOfBounds(what + ", left " + number, state, court -> court.left(number));
        }
    }

    private static void promise10And12Products() {
        range("halt product", 0, 2, (court, x) -> court.halt(x, true));
        range("letting go on product", 0, 2, (court, x) -> court.halt(x, false));
        range("best product to buy", 0, 2, (court, x) -> court.best(x, true));
        range("best product to sell", 0, 2, (court, x) -> court.best(x, false));
    }

    private static void promises16To26Questions() {
        range("called member", 0, 4, MarginCourt::called);
        range("hasFailed member", 0, 4, (court, x) -> court.hasFailed(x) ? 1 : 0);
        range("position member", 0, 4, (court, x) -> court.position(x, 0));
        range("position product", 0, 2, (court, x) -> court.position(0, x));
        range("cash member", 0, 4, MarginCourt::cash);
        range("equity member", 0, 4, MarginCourt::equity);
        range("equityByTrades member", 0, 4, MarginCourt::equityByTrades);
        range("margin member", 0, 4, MarginCourt::margin);
        range("haircut kind", 0, 1, MarginCourt::haircut);
        range("collateral member", 0, 4, MarginCourt::collateral);
        range("free member", 0, 4, MarginCourt::free);
        range("share member", 0, 4, MarginCourt::share);
    }
}
