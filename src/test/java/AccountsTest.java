/** Promises 15 and 20 to 22: evenings, equity, margin. */
public final class AccountsTest {
    public static void main(String[] args) {
        promise15Evening();
        promise20Equity();
        promise21EquityByTrades();
        promise22MarginOfPositions();
        promise22MarginOfRestingOrders();
        promise22MarginOverProducts();
        Check.end();
    }

    private static void trade(MarginCourt court, int buyer, int seller, int product, int price, int quantity) {
        court.place(seller, product, false, price, quantity);
        court.place(buyer, product, true, price, quantity);
    }

    private static void promise15Evening() {
        MarginCourt court = new MarginCourt();
        trade(court, 0, 1, 0, 90, 10);
        trade(court, 0, 2, 1, 120, 5);
        Check.due("what some win, others lose", court.evening(), 0);
        Check.due("cash 0", court.cash(0), 100 - 100);
        Check.due("cash 1", court.cash(1), -100);
        Check.due("cash 2", court.cash(2), 100);
        court.tell(0, 95);
        court.tell(1, 103);
        Check.due("the next evening", court.evening(), 0);
        Check.due("only what changed since: 0", court.cash(0), -50 + 15);
        Check.due("only what changed since: 1", court.cash(1), -50);
        Check.due("only what changed since: 2", court.cash(2), 85);
        Check.due("nothing changed since", court.evening(), 0);
        Check.due("cash stays", court.cash(1), -50);
        Check.due("positions stay", court.position(0, 0), 10);
        Check.due("a call is left alone", court.called(1), -1);
    }

    private static void promise20Equity() {
        MarginCourt court = new MarginCourt();
        court.pay(0, 1000);
        trade(court, 0, 1, 0, 150, 10);
        Check.due("bought above the price", court.equity(0), 500);
        Check.due("sold above the price", court.equity(1), 500);
        court.tell(0, 160);
        Check.due("bought below the price", court.equity(0), 1100);
        court.evening();
        Check.due("the evening leaves it", court.equity(0), 1100);
        trade(court, 1, 0, 0, 200, 10);
        Check.due("without a position", court.equity(0), 1500);
        court.tell(0, 9999);
        Check.due("the price does not matter any more", court.equity(0), 1500);
        court.pay(0, -1500);
        Check.due("paid out", court.equity(0), 0);
        court.bring(0, 0, 9);
        Check.due("collateral does not count", court.equity(0), 0);
        Check.illegal("equity(-1)", () -> court.equity(-1));
        Check.illegal("equity(5)", () -> court.equity(5));
    }

    private static void promise21EquityByTrades() {
        MarginCourt court = new MarginCourt();
        court.pay(0, 1000);
        court.pay(0, -300);
        Check.due("paid in and out", court.equityByTrades(0), 700);
        trade(court, 0, 1, 0, 150, 10);
        trade(court, 2, 0, 2, 120, 3);
        Check.due("two trades", court.equityByTrades(0), 700 - 500 + 60);
        court.evening();
        court.tell(0, 200);
        court.tell(2, 90);
        Check.due("each at the present price", court.equityByTrades(0), 700 + 500 + 90);
        Check.due("seller", court.equityByTrades(1), -500);
        Check.due("buyer", court.equityByTrades(2), -90);
        Check.due("no part in it", court.equityByTrades(3), 0);
        Check.illegal("equityByTrades(-1)", () -> court.equityByTrades(-1));
        Check.illegal("equityByTrades(5)", () -> court.equityByTrades(5));
    }

    private static void promise22MarginOfPositions() {
        MarginCourt court = new MarginCourt();
        trade(court, 0, 1, 0, 100, 10);
        Check.due("no moves", court.margin(0), 0);
        court.setMove(3, 0, -500);
        Check.due("long loses by a fall", court.margin(0), 5000);
        Check.due("short wins by it: at least 0", court.margin(1), 0);
        court.setMove(1, 0, 20);
        Check.due("the greatest one", court.margin(0), 5000);
        Check.due("short loses by a rise", court.margin(1), 200);
        court.setMove(3, 0, 20);
        court.setMove(0, 0, 20);
        court.setMove(2, 0, 20);
        Check.due("all moves win: at least 0", court.margin(0), 0);
        Check.illegal("margin(-1)", () -> court.margin(-1));
        Check.illegal("margin(5)", () -> court.margin(5));
    }

    private static void promise22MarginOfRestingOrders() {
        MarginCourt court = new MarginCourt();
        court.setMove(0, 0, 10);
        court.setMove(1, 0, -10);
        court.place(0, 0, true, 90, 7);
        court.place(0, 0, true, 80, 2);
        Check.due("all to buy", court.margin(0), 90);
        court.place(0, 0, false, 110, 12);
        Check.due("the worse side", court.margin(0), 120);
        court.place(1, 0, true, 110, 5);
        Check.due("a fill leaves the side as bad", court.margin(0), 120);
        Check.due("the buyer", court.margin(1), 50);
        court.cancel(2);
        Check.due("short 5, 9 to buy: 4 long at worst, 5 short at worst", court.margin(0), 50);
        court.setMove(0, 0, 0);
        Check.due("only the fall is left", court.margin(0), 40);
        court.halt(0, true);
        Check.due("short wins by a fall", court.margin(0), 0);
    }

    private static void promise22MarginOverProducts() {
        MarginCourt court = new MarginCourt();
        trade(court, 0, 1, 0, 100, 10);
        trade(court, 0, 1, 1, 100, 20);
        trade(court, 1, 0, 2, 100, 30);
        court.setMove(0, 0, -10);
        court.setMove(0, 1, 4);
        court.setMove(0, 2, 1);
        Check.due("losses and gains of one move together", court.margin(0), 100 - 80 + 30);
        Check.due("the other side of it", court.margin(1), 0);
        court.setMove(1, 1, -3);
        Check.due("the worse move, not the worst of each product", court.margin(0), 60);
        court.place(0, 1, false, 120, 50);
        Check.due("a resting order, by its move", court.margin(0), 100 + 120 + 30);
    }
}
