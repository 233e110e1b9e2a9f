/** Promises 1 to 4 and 23: a new object, and what is told. */
public final class ToldTest {
    public static void main(String[] args) {
        promise01NewObject();
        promise02Tell();
        promise03SetMove();
        promise04TellKind();
        promise23Haircut();
        Check.end();
    }

    private static void promise01NewObject() {
        MarginCourt court = new MarginCourt();
        for (int m = 0; m < 5; m++) {
            Check.due("new cash", court.cash(m), 0);
            Check.due("new equity", court.equity(m), 0);
            Check.due("new equityByTrades", court.equityByTrades(m), 0);
            Check.due("new margin", court.margin(m), 0);
            Check.due("new collateral", court.collateral(m), 0);
            Check.due("new free", court.free(m), 0);
            Check.due("new share", court.share(m), 0);
            Check.due("new called", court.called(m), -1);
            Check.due("new hasFailed", court.hasFailed(m), false);
            for (int p = 0; p < 3; p++) {
                Check.due("new position", court.position(m, p), 0);
            }
        }
        Check.due("new trades", court.trades(), 0);
        Check.due("new unpaid", court.unpaid(), 0);
        Check.due("new haircut 0", court.haircut(0), 10);
        Check.due("new haircut 1", court.haircut(1), 10);
        new MarginCourt().pay(0, 5);
        Check.due("another object's cash", court.cash(0), 0);
    }

    private static void promise02Tell() {
        MarginCourt court = new MarginCourt();
        for (int p = 0; p < 3; p++) {
            Check.due("first price", court.tell(p, 9999), 100);
            Check.due("price before", court.tell(p, 1), 9999);
            Check.due("price before", court.tell(p, 50 + p), 1);
        }
        for (int p = 0; p < 3; p++) {
            Check.due("each product has its own price", court.tell(p, 7), 50 + p);
        }
        Check.illegal("tell(-1, 1)", () -> court.tell(-1, 1));
        Check.illegal("tell(3, 1)", () -> court.tell(3, 1));
        Check.illegal("tell(0, 0)", () -> court.tell(0, 0));
        Check.illegal("tell(0, -5)", () -> court.tell(0, -5));
        Check.illegal("tell(0, 10000)", () -> court.tell(0, 10000));
        Check.illegal("tell(max, max)", () -> court.tell(Integer.MAX_VALUE, Integer.MAX_VALUE));
        Check.due("price after throws", court.tell(0, 8), 7);
    }

    private static void promise03SetMove() {
        MarginCourt court = new MarginCourt();
        for (int move = 0; move < 4; move++) {
            for (int p = 0; p < 3; p++) {
                Check.due("first change", court.setMove(move, p, move * 10 + p), 0);
            }
        }
        for (int move = 0; move < 4; move++) {
            for (int p = 0; p < 3; p++) {
                Check.due("change before", court.setMove(move, p, 500), move * 10 + p);
                Check.due("change before", court.setMove(move, p, -500), 500);
            }
        }
        Check.illegal("setMove(-1, 0, 0)", () -> court.setMove(-1, 0, 0));
        Check.illegal("setMove(4, 0, 0)", () -> court.setMove(4, 0, 0));
        Check.illegal("setMove(0, -1, 0)", () -> court.setMove(0, -1, 0));
        Check.illegal("setMove(0, 3, 0)", () -> court.setMove(0, 3, 0));
        Check.illegal("setMove(0, 0, 501)", () -> court.setMove(0, 0, 501));
        Check.illegal("setMove(0, 0, -501)", () -> court.setMove(0, 0, -501));
        Check.illegal("setMove(0, 0, min)", () -> court.setMove(0, 0, Integer.MIN_VALUE));
        Check.due("change after throws", court.setMove(0, 0, 0), -500);
    }

    private static void promise04TellKind() {
        MarginCourt court = new MarginCourt();
        Check.due("20 of 120, rounded up", court.tellKind(0, 120), 27);
        Check.due("40 of 80", court.tellKind(0, 80), 60);
        Check.due("the other kind is as before", court.tellKind(1, 100), 10);
        Check.due("1 of 99 rounds up to 2", court.tellKind(1, 99), 12);
        Check.illegal("tellKind(-1, 1)", () -> court.tellKind(-1, 1));
        Check.illegal("tellKind(2, 1)", () -> court.tellKind(2, 1));
        Check.illegal("tellKind(0, 0)", () -> court.tellKind(0, 0));
        Check.illegal("tellKind(0, 10000)", () -> court.tellKind(0, 10000));
        Check.illegal("tellKind(0, min)", () -> court.tellKind(0, Integer.MIN_VALUE));
        Check.due("haircut after throws", court.haircut(0), 60);
        Check.due("9999", court.tellKind(0, 9999), 90);
        Check.due("1", court.tellKind(1, 1), 90);
    }

    private static void promise23Haircut() {
        MarginCourt court = new MarginCourt();
        int[] prices = {100, 100, 110, 110, 110, 110, 109, 9999, 9999, 9999, 9999, 5000, 1, 1, 1, 1};
        int[] haircuts = {10, 10, 20, 20, 20, 10, 11, 90, 90, 90, 10, 90, 90, 90, 90, 10};
        for (int i = 0; i < prices.length; i++) {
            Check.due("tellKind " + i, court.tellKind(1, prices[i]), haircuts[i]);
            Check.due("haircut " + i, court.haircut(1), haircuts[i]);
        }
        Check.due("the other kind", court.haircut(0), 10);
        MarginCourt edge = new MarginCourt();
        Check.due("80 of 100 is the most", edge.tellKind(0, 180), 55);
        Check.due("80 of 100 is the most", edge.tellKind(0, 100), 90);
        MarginCourt below = new MarginCourt();
        below.tellKind(0, 179);
        Check.due("79 of 100 is below the most", below.tellKind(0, 100), 89);
        Check.illegal("haircut(-1)", () -> court.haircut(-1));
        Check.illegal("haircut(2)", () -> court.haircut(2));
    }
}
