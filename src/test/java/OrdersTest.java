import java.util.NoSuchElementException;

/** Promises 8 to 13 and 18: orders, trades, positions. */
public final class OrdersTest {
    public static void main(String[] args) {
        promise08Place();
        promise08PriceAndTime();
        promise08OwnOrders();
        promise08LimitsOfTrades();
        promise08Throws();
        promise08AtMostHundred();
        promise09Cancel();
        promise10Halt();
        promise11Left();
        promise12Best();
        promise13Trades();
        promise18Position();
        Check.end();
    }

    private static void promise08Place() {
        MarginCourt court = new MarginCourt();
        Check.due("first number", court.place(0, 0, true, 1, 100), 0);
        Check.due("second number", court.place(1, 1, false, 9999, 1), 1);
        Check.due("nothing meets", court.trades(), 0);
        Check.due("third number", court.place(2, 0, false, 1, 30), 2);
        Check.due("equal limits meet", court.trades(), 1);
        Check.due("rest of the one to buy", court.left(0), 70);
        Check.due("rest of the one to sell", court.left(2), 0);
        Check.due("fourth number", court.place(3, 0, false, 2, 5), 3);
        Check.due("a limit above does not meet", court.left(3), 5);
        Check.due("fifth number", court.place(3, 1, true, 9998, 5), 4);
        Check.due("a limit below does not meet", court.left(4), 5);
        Check.due("other products do not meet", court.place(4, 2, true, 9999, 5), 5);
        Check.due("trades", court.trades(), 1);
        Check.due("more than rests", court.place(1, 0, false, 1, 100), 6);
        Check.due("what is left rests", court.left(6), 30);
    }

    private static void promise08PriceAndTime() {
        MarginCourt court = new MarginCourt();
        court.place(0, 0, false, 105, 5);
        court.place(1, 0, false, 103, 5);
        court.place(2, 0, false, 103, 5);
        court.place(3, 0, false, 104, 5);
        court.place(4, 0, true, 104, 12);
        Check.due("lowest limit, lowest number first", court.left(1), 0);
        Check.due("the same limit next", court.left(2), 0);
        Check.due("the higher limit next", court.left(3), 3);
        Check.due("the highest does not meet", court.left(0), 5);
        Check.due("paid at the limits of the resting", court.equity(4), 1200 - 103 * 10 - 104 * 2);
        Check.due("seller", court.equity(3), 8);
        court.place(0, 1, true, 95, 5);
        court.place(1, 1, true, 97, 5);
        court.place(2, 1, true, 97, 5);
        court.place(3, 1, true, 96, 5);
        court.place(4, 1, false, 96, 12);
        Check.due("highest limit, lowest number first", court.left(6), 0);
        Check.due("the same limit next, to sell", court.left(7), 0);
        Check.due("the lower limit next", court.left(8), 3);
        Check.due("the lowest does not meet", court.left(5), 5);
    }

    private static void promise08OwnOrders() {
        MarginCourt court = new MarginCourt();
        court.place(0, 0, false, 101, 5);
        court.place(1, 0, false, 102, 5);
        court.place(0, 0, false, 103, 5);
        court.place(0, 0, true, 102, 8);
        Check.due("the own one is cancelled", court.left(0), 0);
        Check.due("the other one trades", court.left(1), 0);
        Check.due("what is left rests", court.left(3), 3);
        Check.due("one that does not meet stays", court.left(2), 5);
        Check.due("one trade", court.trades(), 1);
        Check.due("position", court.position(0, 0), 5);
        court.place(0, 0, false, 104, 5);
        Check.due("the same side is not touched", court.left(2), 5);
    }

    private static void promise08LimitsOfTrades() {
        MarginCourt court = new MarginCourt();
        court.place(0, 0, true, 110, 4);
        court.place(1, 0, false, 90, 4);
        Check.due("at the limit of the resting one: buyer", court.equity(0), -40);
        Check.due("at the limit of the resting one: seller", court.equity(1), 40);
        Check.due("buyer by trades", court.equityByTrades(0), -40);
        Check.due("seller by trades", court.equityByTrades(1), 40);
    }

    private static void promise08Throws() {
        MarginCourt court = new MarginCourt();
        Check.illegal("member -1", () -> court.place(-1, 0, true, 1, 1));
        Check.illegal("member 5", () -> court.place(5, 0, true, 1, 1));
        Check.illegal("product -1", () -> court.place(0, -1, true, 1, 1));
        Check.illegal("product 3", () -> court.place(0, 3, true, 1, 1));
        Check.illegal("limit 0", () -> court.place(0, 0, true, 0, 1));
        Check.illegal("limit 10000", () -> court.place(0, 0, true, 10000, 1));
        Check.illegal("quantity 0", () -> court.place(0, 0, true, 1, 0));
        Check.illegal("quantity 101", () -> court.place(0, 0, true, 1, 101));
        Check.illegal("all wrong", () -> court.place(-9, 99, true, -1, Integer.MIN_VALUE));
        court.halt(0, true);
        Check.badState("halted", () -> court.place(0, 0, true, 1, 1));
        Check.illegal("halted, but the limit comes first", () -> court.place(0, 0, true, 0, 1));
        Check.due("no number was used", court.place(0, 1, true, 1, 1), 0);
    }

    private static void promise08AtMostHundred() {
        MarginCourt court = new MarginCourt();
        for (int i = 0; i < 100; i++) {
            Check.due("number", court.place(i % 5, 0, i % 2 == 0, 100, 1), i);
        }
        Check.badState("the 101st", () -> court.place(0, 0, true, 1, 1));
        Check.illegal("the 101st with a wrong quantity", () -> court.place(0, 0, true, 1, 0));
        Check.dueThrow("left(100)", () -> court.left(100), IndexOutOfBoundsException.class);
    }

    private static void promise09Cancel() {
        MarginCourt court = new MarginCourt();
        court.place(0, 0, true, 100, 9);
        court.place(1, 0, false, 100, 4);
        Check.due("what was left", court.cancel(0), 5);
        Check.due("nothing is left", court.left(0), 0);
        Check.badState("cancelled already", () -> court.cancel(0));
        Check.badState("filled", () -> court.cancel(1));
        Check.dueThrow("cancel(-1)", () -> court.cancel(-1), IndexOutOfBoundsException.class);
        Check.dueThrow("cancel(2)", () -> court.cancel(2), IndexOutOfBoundsException.class);
        Check.dueThrow("cancel(min)", () -> court.cancel(Integer.MIN_VALUE), IndexOutOfBoundsException.class);
        court.place(2, 0, false, 100, 4);
        Check.due("a cancelled one does not trade", court.left(2), 4);
        Check.due("the position stays", court.position(0, 0), 4);
    }

    private static void promise10Halt() {
        MarginCourt court = new MarginCourt();
        court.setMove(0, 0, 10);
        court.place(0, 0, true, 100, 9);
        court.place(1, 0, false, 100, 9);
        court.place(0, 0, true, 90, 9);
        court.place(1, 0, false, 110, 9);
        court.place(2, 1, false, 110, 9);
        court.place(3, 0, true, 80, 1);
        Check.due("margin ahead", court.margin(1), 180);
        Check.due("letting go on cancels none", court.halt(0, false), 0);
        Check.due("halting cancels those that rest", court.halt(0, true), 3);
        Check.due("margin is freed", court.margin(1), 90);
        Check.due("halting again", court.halt(0, true), 0);
        Check.due("left 2", court.left(2), 0);
        Check.due("left 3", court.left(3), 0);
        Check.due("other products stay", court.left(4), 9);
        Check.due("positions stay", court.position(0, 0), 9);
        Check.badState("none can be placed", () -> court.place(0, 0, true, 1, 1));
        Check.due("but for others", court.place(0, 1, true, 1, 1), 6);
        Check.due("goes on", court.halt(0, false), 0);
        Check.due("placed again", court.place(0, 0, true, 1, 1), 7);
        Check.illegal("halt(-1)", () -> court.halt(-1, true));
        Check.illegal("halt(3)", () -> court.halt(3, false));
    }

    private static void promise11Left() {
        MarginCourt court = new MarginCourt();
        Check.dueThrow("left(0)", () -> court.left(0), IndexOutOfBoundsException.class);
        court.place(0, 2, true, 100, 100);
        Check.due("all", court.left(0), 100);
        court.place(1, 2, false, 100, 99);
        Check.due("one", court.left(0), 1);
        court.place(1, 2, false, 100, 1);
        Check.due("none", court.left(0), 0);
        Check.dueThrow("left(-1)", () -> court.left(-1), IndexOutOfBoundsException.class);
        Check.dueThrow("left(3)", () -> court.left(3), IndexOutOfBoundsException.class);
        Check.dueThrow("left(max)", () -> court.left(Integer.MAX_VALUE), IndexOutOfBoundsException.class);
    }

    private static void promise12Best() {
        MarginCourt court = new MarginCourt();
        court.place(0, 0, true, 90, 1);
        court.place(0, 0, true, 91, 1);
        court.place(0, 0, true, 91, 1);
        court.place(0, 0, false, 95, 1);
        court.place(0, 0, false, 94, 1);
        court.place(0, 0, false, 94, 1);
        Check.due("highest to buy", court.best(0, true), 1);
        Check.due("lowest to sell", court.best(0, false), 4);
        court.cancel(1);
        court.cancel(4);
        Check.due("next to buy", court.best(0, true), 2);
        Check.due("next to sell", court.best(0, false), 5);
        court.cancel(2);
        court.cancel(5);
        Check.due("last to buy", court.best(0, true), 0);
        Check.due("last to sell", court.best(0, false), 3);
        court.cancel(0);
        Check.dueThrow("none to buy", () -> court.best(0, true), NoSuchElementException.class);
        Check.due("still one to sell", court.best(0, false), 3);
        Check.dueThrow("none of product 1", () -> court.best(1, false), NoSuchElementException.class);
        Check.illegal("best(-1)", () -> court.best(-1, true));
        Check.illegal("best(3)", () -> court.best(3, false));
    }

    private static void promise13Trades() {
        MarginCourt court = new MarginCourt();
        for (int m = 0; m < 4; m++) {
            court.place(m, 0, false, 100 + m, 1);
        }
        court.place(4, 0, true, 200, 9);
        Check.due("one for each resting order", court.trades(), 4);
        court.place(4, 0, false, 200, 9);
        Check.due("none with oneself", court.trades(), 4);
    }

    private static void promise18Position() {
        MarginCourt court = new MarginCourt();
        court.place(0, 2, true, 100, 30);
        court.place(1, 2, false, 100, 50);
        Check.due("bought", court.position(0, 2), 30);
        Check.due("sold", court.position(1, 2), -30);
        Check.due("other product", court.position(0, 1), 0);
        court.place(0, 2, false, 90, 10);
        Check.due("what rests is no position", court.position(0, 2), 30);
        court.place(2, 2, true, 90, 10);
        Check.due("sold again", court.position(0, 2), 20);
        Check.illegal("position(-1, 0)", () -> court.position(-1, 0));
        Check.illegal("position(5, 0)", () -> court.position(5, 0));
        Check.illegal("position(0, -1)", () -> court.position(0, -1));
        Check.illegal("position(0, 3)", () -> court.position(0, 3));
    }
}
