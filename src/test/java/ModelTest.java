import java.util.NoSuchElementException;
import java.util.Random;
import java.util.Set;
import java.util.function.LongSupplier;

/** Long runs of chosen calls, each answered by MarginCourt and by PlainModel. */
public final class ModelTest {
    private static final int RUNS = 3000;
    private static final int CALLS = 500;
    private static final Set<Class<?>> TOLD = Set.of(IllegalArgumentException.class, IllegalStateException.class,
            IndexOutOfBoundsException.class, NoSuchElementException.class);

    private final Random random;
    private final MarginCourt court = new MarginCourt();
    private final PlainModel model = new PlainModel();
    private final StringBuilder story = new StringBuilder();
    private final int spread;
    private final int money;
    private final int units;
    private final int wrongInputs;
    private int placed;

    private ModelTest(long seed) {
        random = new Random(seed);
        spread = new int[] {3, 15, 60, 5000}[random.nextInt(4)];
        money = new int[] {20, 300, 3000, 100000}[random.nextInt(4)];
        units = new int[] {2, 20, 1000}[random.nextInt(3)];
        wrongInputs = new int[] {0, 3, 15}[random.nextInt(3)];
    }

    public static void main(String[] args) {
        int[] seen = new int[12];
        for (int seed = 0; seed < RUNS; seed++) {
            ModelTest run = new ModelTest(seed);
            if (!run.agrees()) {
                System.out.println("run " + seed + " disagrees:\n" + run.story);
                System.exit(1);
            }
            run.count(seen);
        }
        for (int i = 0; i < seen.length; i++) {
            Check.due("rare case " + i + " was seen", seen[i] > 20, true);
        }
        System.out.println(RUNS + " runs agree; rare cases: " + java.util.Arrays.toString(seen));
        Check.end();
    }

    private void count(int[] seen) {
        int[] now = {model.closings, model.closedFree, model.failures, model.takenOver, model.ownCancelled,
            model.fundShared, model.fundRounded, model.fundExhausted, model.ownShareEnough, model.soldCollateral,
            model.failedWithCash, model.severalClosed};
        for (int i = 0; i < seen.length; i++) {
            seen[i] += now[i];
        }
    }

    private boolean agrees() {
        for (int i = 0; i < CALLS; i++) {
            if (!step()) {
                return false;
            }
        }
        return true;
    }

    private boolean same(String call, LongSupplier got, LongSupplier want) {
        String answer = answer(got, true);
        String due = answer(want, false);
        story.append(call).append(" = ").append(answer).append('\n');
        if (answer.equals(due)) {
            return true;
        }
        story.append("due is ").append(due).append('\n');
        return false;
    }

    /** Of MarginCourt (strict) it asks, too, that its own lines throw, and only what the document tells. */
    private static String answer(LongSupplier call, boolean strict) {
        try {
            return Long.toString(call.getAsLong());
        } catch (RuntimeException thrown) {
            if (strict && !(TOLD.contains(thrown.getClass()) && Check.isFromOwnLines(thrown))) {
                return "the machine's " + thrown;
            }
            return "throws." + thrown.getClass().getSimpleName();
        }
    }

    private int within(int low, int high) {
        if (random.nextInt(100) < wrongInputs) {
            return new int[] {low - 1, high + 1, Integer.MIN_VALUE, Integer.MAX_VALUE}[random.nextInt(4)];
        }
        return switch (random.nextInt(20)) {
            case 0 -> low;
            case 1 -> high;
            default -> low + random.nextInt(high - low + 1);
        };
    }

    private int member() {
        return within(0, 4);
    }

    private int product() {
        return within(0, 2);
    }

    private int price() {
        return random.nextInt(60) == 0 ? within(1, 9999) : within(Math.max(1, 100 - spread), 100 + spread);
    }

    private boolean step() {
        int dice = random.nextInt(100);
        if (dice < 55) {
            return change(dice);
        }
        return dice < 60 ? order() : ask(dice);
    }

    private boolean change(int dice) {
        boolean b = random.nextBoolean();
        if (dice < 20) {
            int m = member(), p = product(), l = price(), q = within(1, random.nextInt(4) == 0 ? 100 : 12);
            placed++;
            return same("place(" + m + ", " + p + ", " + b + ", " + l + ", " + q + ")",
                    () -> court.place(m, p, b, l, q), () -> model.place(m, p, b, l, q));
        }
        if (dice < 30) {
            return same("hour()", court::hour, model::hour);
        }
        if (dice < 32) {
            return same("evening()", court::evening, model::evening);
        }
        if (dice < 37) {
            int p = product(), x = price();
            return same("tell(" + p + ", " + x + ")", () -> court.tell(p, x), () -> model.tell(p, x));
        }
        if (dice < 41) {
            int k = within(0, 3), p = product(), c = random.nextInt(9) == 0 ? within(-500, 500) : within(-20, 20);
            return same("setMove(" + k + ", " + p + ", " + c + ")",
                    () -> court.setMove(k, p, c), () -> model.setMove(k, p, c));
        }
        if (dice < 43) {
            int k = within(0, 1), x = price();
            return same("tellKind(" + k + ", " + x + ")", () -> court.tellKind(k, x), () -> model.tellKind(k, x));
        }
        if (dice < 47) {
            int m = member(), a = within(-money, money);
            return same("pay(" + m + ", " + a + ")", () -> court.pay(m, a), () -> model.pay(m, a));
        }
        if (dice < 50) {
            int m = member(), k = within(0, 1), u = within(-units, units);
            return same("bring(" + m + ", " + k + ", " + u + ")",
                    () -> court.bring(m, k, u), () -> model.bring(m, k, u));
        }
        if (dice < 53) {
            int m = member(), a = within(1, random.nextBoolean() ? 30 : money);
            return same("contribute(" + m + ", " + a + ")", () -> court.contribute(m, a), () -> model.contribute(m, a));
        }
        int p = product();
        boolean halts = random.nextInt(3) == 0;
        return same("halt(" + p + ", " + halts + ")", () -> court.halt(p, halts), () -> model.halt(p, halts));
    }

    private boolean order() {
        int o = within(0, Math.max(0, Math.min(placed, 101)));
        boolean b = random.nextBoolean();
        int p = product();
        return switch (random.nextInt(3)) {
            case 0 -> same("cancel(" + o + ")", () -> court.cancel(o), () -> model.cancel(o));
            case 1 -> same("left(" + o + ")", () -> court.left(o), () -> model.left(o));
            default -> same("best(" + p + ", " + b + ")", () -> court.best(p, b), () -> model.best(p, b));
        };
    }

    private boolean ask(int dice) {
        int m = member();
        int p = product();
        int k = within(0, 1);
        return switch (dice % 14) {
            case 0 -> same("trades()", court::trades, model::trades);
            case 1 -> same("called(" + m + ")", () -> court.called(m), () -> model.called(m));
            case 2 -> same("hasFailed(" + m + ")",
                    () -> court.hasFailed(m) ? 1 : 0, () -> model.hasFailed(m) ? 1 : 0);
            case 3 -> same("position(" + m + ", " + p + ")", () -> court.position(m, p), () -> model.position(m, p));
            case 4 -> same("cash(" + m + ")", () -> court.cash(m), () -> model.cash(m));
            case 5 -> same("equity(" + m + ")", () -> court.equity(m), () -> model.equity(m));
            case 6 -> same("equityByTrades(" + m + ")",
                    () -> court.equityByTrades(m), () -> model.equityByTrades(m));
            case 7 -> same("margin(" + m + ")", () -> court.margin(m), () -> model.margin(m));
            case 8 -> same("haircut(" + k + ")", () -> court.haircut(k), () -> model.haircut(k));
            case 9 -> same("collateral(" + m + ")", () -> court.collateral(m), () -> model.collateral(m));
            case 10 -> same("free(" + m + ")", () -> court.free(m), () -> model.free(m));
            case 11 -> same("share(" + m + ")", () -> court.share(m), () -> model.share(m));
            case 12 -> same("unpaid()", court::unpaid, model::unpaid);
            default -> same("left(" + (placed - 1) + ")", () -> court.left(placed - 1), () -> model.left(placed - 1));
        };
    }
}
