/** Promises 5 to 7, 19, 24 to 26: money and collateral. */
public final class MoneyTest {
    public static void main(String[] args) {
        promise05Pay();
        promise05PayWithMargin();
        promise06Bring();
        promise06BringWithMargin();
        promise07Contribute();
        promise19Cash();
        promise24Collateral();
        promise25Free();
        promise26Share();
        failedMembersPayNothing();
        Check.end();
    }

    private static void promise05Pay() {
        MarginCourt court = new MarginCourt();
        Check.due("pay in", court.pay(0, 100000), 100000);
        Check.due("pay in again", court.pay(0, 5), 100005);
        Check.due("pay nothing", court.pay(0, 0), 100005);
        Check.due("pay out", court.pay(0, -100000), 5);
        Check.badState("pay out one too much", () -> court.pay(0, -6));
        Check.due("pay out all", court.pay(0, -5), 0);
        Check.badState("pay out of nothing", () -> court.pay(1, -1));
        Check.illegal("pay(-1, 0)", () -> court.pay(-1, 0));
        Check.illegal("pay(5, 0)", () -> court.pay(5, 0));
        Check.illegal("pay(0, 100001)", () -> court.pay(0, 100001));
        Check.illegal("pay(0, -100001)", () -> court.pay(0, -100001));
        Check.illegal("pay(0, min)", () -> court.pay(0, Integer.MIN_VALUE));
        Check.due("cash after throws", court.cash(0), 0);
    }

    private static void promise05PayWithMargin() {
        MarginCourt court = new MarginCourt();
        court.setMove(0, 0, -10);
        court.place(0, 0, true, 100, 5);
        Check.due("a resting order is margined", court.free(0), -50);
        Check.due("pay nothing while something lacks", court.pay(0, 0), 0);
        Check.due("pay in less than lacks", court.pay(0, 20), 20);
        Check.badState("pay out while something lacks", () -> court.pay(0, -1));
        court.bring(0, 0, 1);
        Check.due("collateral frees cash", court.pay(0, -60), -40);
        Check.badState("one more", () -> court.pay(0, -1));
    }

    private static void promise06Bring() {
        MarginCourt court = new MarginCourt();
        Check.due("bring", court.bring(0, 0, 1000), 1000);
        Check.badState("above 1000", () -> court.bring(0, 0, 1));
        Check.due("bring nothing", court.bring(0, 0, 0), 1000);
        Check.due("the other kind", court.bring(0, 1, 3), 3);
        Check.due("take away", court.bring(0, 1, -2), 1);
        Check.badState("below 0", () -> court.bring(0, 1, -2));
        Check.due("take the last", court.bring(0, 1, -1), 0);
        Check.due("take all", court.bring(0, 0, -1000), 0);
        Check.illegal("bring(-1, 0, 0)", () -> court.bring(-1, 0, 0));
        Check.illegal("bring(5, 0, 0)", () -> court.bring(5, 0, 0));
        Check.illegal("bring(0, -1, 0)", () -> court.bring(0, -1, 0));
        Check.illegal("bring(0, 2, 0)", () -> court.bring(0, 2, 0));
        Check.illegal("bring(0, 0, 1001)", () -> court.bring(0, 0, 1001));
        Check.illegal("bring(0, 0, -1001)", () -> court.bring(0, 0, -1001));
        Check.due("units after throws", court.bring(0, 0, 0), 0);
    }

    private static void promise06BringWithMargin() {
        MarginCourt court = new MarginCourt();
        court.setMove(0, 0, -10);
        court.bring(0, 0, 10);
        court.bring(0, 1, 1);
        court.tellKind(1, 1);
        court.place(0, 0, true, 100, 72);
        Check.due("free", court.free(0), 180);
        Check.due("a unit worth nothing can go", court.bring(0, 1, -1), 0);
        Check.due("take away two", court.bring(0, 0, -2), 8);
        Check.badState("one more", () -> court.bring(0, 0, -1));
        court.tell(0, 1);
        court.setMove(0, 0, -11);
        Check.due("free below 0", court.free(0), -72);
        Check.due("bring nothing while something lacks", court.bring(0, 0, 0), 8);
        Check.badState("take away while something lacks", () -> court.bring(0, 0, -1));
        Check.due("bring while something lacks", court.bring(0, 0, 1), 9);
    }

    private static void promise07Contribute() {
        MarginCourt court = new MarginCourt();
        Check.due("contribute", court.contribute(2, 1), 1);
        Check.due("contribute more", court.contribute(2, 100000), 100001);
        Check.due("cash stays", court.cash(2), 0);
        Check.due("equity stays", court.equity(2), 0);
        Check.due("equityByTrades stays", court.equityByTrades(2), 0);
        Check.due("free stays", court.free(2), 0);
        Check.illegal("contribute(-1, 1)", () -> court.contribute(-1, 1));
        Check.illegal("contribute(5, 1)", () -> court.contribute(5, 1));
        Check.illegal("contribute(0, 0)", () -> court.contribute(0, 0));
        Check.illegal("contribute(0, -1)", () -> court.contribute(0, -1));
        Check.illegal("contribute(0, 100001)", () -> court.contribute(0, 100001));
        Check.due("share after throws", court.share(0), 0);
    }

    private static void promise19Cash() {
        MarginCourt court = new MarginCourt();
        court.pay(4, 70);
        court.place(4, 1, true, 90, 2);
        court.place(3, 1, false, 90, 2);
        Check.due("a trade leaves the cash", court.cash(4), 70);
        court.evening();
        Check.due("the evening does not: buyer", court.cash(4), 90);
        Check.due("the evening does not: seller", court.cash(3), -20);
        Check.illegal("cash(-1)", () -> court.cash(-1));
        Check.illegal("cash(5)", () -> court.cash(5));
    }

    private static void promise24Collateral() {
        MarginCourt court = new MarginCourt();
        court.bring(1, 0, 7);
        Check.due("7 times 100 less 10 percent", court.collateral(1), 630);
        court.tellKind(0, 99);
        Check.due("7 times 99 times 88 percent, rounded down", court.collateral(1), 609);
        for (int i = 0; i < 4; i++) {
            court.tellKind(0, 33);
            court.tellKind(1, 33);
        }
        court.bring(1, 1, 5);
        Check.due("each kind is rounded down alone", court.collateral(1), 207 + 148);
        for (int i = 0; i < 4; i++) {
            court.tellKind(0, 9999);
            court.tellKind(1, 9999);
        }
        court.bring(1, 0, 993);
        court.bring(1, 1, 995);
        Check.due("the most", court.collateral(1), 2 * 8999100);
        Check.due("another member", court.collateral(0), 0);
        Check.illegal("collateral(-1)", () -> court.collateral(-1));
        Check.illegal("collateral(5)", () -> court.collateral(5));
    }

    private static void promise25Free() {
        MarginCourt court = new MarginCourt();
        court.setMove(2, 0, 7);
        court.pay(0, 50);
        court.bring(0, 1, 1);
        court.place(0, 0, false, 120, 10);
        Check.due("cash, collateral, less margin", court.free(0), 50 + 90 - 70);
        court.place(1, 0, true, 130, 10);
        court.tell(0, 125);
        Check.due("a loss counts at once", court.free(0), 50 + 90 - 70 - 50);
        court.tell(0, 140);
        Check.due("below 0", court.free(0), 50 + 90 - 70 - 200);
        Check.illegal("free(-1)", () -> court.free(-1));
        Check.illegal("free(5)", () -> court.free(5));
    }

    private static void promise26Share() {
        MarginCourt court = new MarginCourt();
        court.contribute(3, 40);
        for (int m = 0; m < 5; m++) {
            Check.due("share of " + m, court.share(m), m == 3 ? 40 : 0);
        }
        Check.illegal("share(-1)", () -> court.share(-1));
        Check.illegal("share(5)", () -> court.share(5));
    }

    private static void failedMembersPayNothing() {
        MarginCourt court = new MarginCourt();
        court.place(0, 0, true, 100, 10);
        court.place(1, 0, false, 100, 10);
        court.tell(0, 90);
        court.hour();
        court.hour();
        court.hour();
        Check.due("failed", court.hasFailed(0), true);
        Check.badState("pay", () -> court.pay(0, 5));
        Check.badState("pay nothing", () -> court.pay(0, 0));
        Check.badState("bring", () -> court.bring(0, 0, 5));
        Check.badState("bring nothing", () -> court.bring(0, 0, 0));
        Check.badState("contribute", () -> court.contribute(0, 5));
        Check.illegal("a range comes ahead of the state: pay", () -> court.pay(0, 100001));
        Check.illegal("a range comes ahead of the state: bring", () -> court.bring(0, 0, 1001));
        Check.illegal("a range comes ahead of the state: contribute", () -> court.contribute(0, 0));
        Check.illegal("a range comes ahead of the state: place", () -> court.place(0, 0, true, 0, 1));
        Check.badState("place", () -> court.place(0, 0, true, 1, 1));
    }
}
