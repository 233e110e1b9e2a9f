/** Steps that many tests take to bring a house to where an edge can be seen. */
final class Steps {
    private Steps() {
    }

    /** One trade, if nothing else rests for the product. */
    static void trade(MarginCourt court, int buyer, int seller, int product, int price, int quantity) {
        court.place(seller, product, false, price, quantity);
        court.place(buyer, product, true, price, quantity);
    }

    /** Returns how many members fail in all these hours. */
    static int hours(MarginCourt court, int hours) {
        int failures = 0;
        for (int i = 0; i < hours; i++) {
            failures += court.hour();
        }
        return failures;
    }

    /** By moves of product 2 by 1, which nobody else has orders for, what is free becomes less by as much. */
    static void bind(MarginCourt court, int member, int amount) {
        court.setMove(0, 2, 1);
        court.place(member, 2, false, 9999, amount);
    }

    static void dueShares(String what, MarginCourt court, int... shares) {
        for (int m = 0; m < shares.length; m++) {
            Check.due(what + ": share of " + m, court.share(m), shares[m]);
        }
    }
}
