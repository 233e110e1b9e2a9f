import java.util.NoSuchElementException;

/** All that an object answers, as a text: two objects in the same state have the same one. */
final class Snapshot {
    private Snapshot() {
    }

    static String of(MarginCourt court, int placed) {
        StringBuilder text = new StringBuilder();
        for (int m = 0; m < 5; m++) {
            text.append("member ").append(m).append(": cash ").append(court.cash(m));
            text.append(" equity ").append(court.equity(m));
            text.append(" byTrades ").append(court.equityByTrades(m));
            text.append(" margin ").append(court.margin(m));
            text.append(" collateral ").append(court.collateral(m));
            text.append(" free ").append(court.free(m)).append(" share ").append(court.share(m));
            text.append(" called ").append(court.called(m)).append(" failed ").append(court.hasFailed(m));
            for (int p = 0; p < 3; p++) {
                text.append(" position ").append(court.position(m, p));
            }
            text.append('\n');
        }
        for (int i = 0; i < 6; i++) {
            text.append("best ").append(i / 2).append(i % 2 == 0).append(' ').append(best(court, i / 2, i % 2 == 0)).append('\n');
        }
        for (int order = 0; order < placed; order++) {
            text.append("left ").append(order).append(' ').append(court.left(order)).append('\n');
        }
        text.append("haircuts ").append(court.haircut(0)).append(' ').append(court.haircut(1));
        text.append(" trades ").append(court.trades()).append(" unpaid ").append(court.unpaid()).append('\n');
        return text.toString();
    }

    private static String best(MarginCourt court, int product, boolean buys) {
        try {
            return Integer.toString(court.best(product, buys));
        } catch (NoSuchElementException none) {
            return "none";
        }
    }
}
