import java.util.NoSuchElementException;
import java.util.function.Consumer;
import java.util.function.ToLongFunction;

/**
 * A refused call throws what is due and changes nothing: of two objects brought to the same
 * state one is called, and then both answer the same to all that could show a change.
 */
final class Refusal {
    private Refusal() {
    }

    static void illegal(String what, Consumer<MarginCourt> state, ToLongFunction<MarginCourt> call) {
        due(what, state, call, IllegalArgumentException.class);
    }

    static void badState(String what, Consumer<MarginCourt> state, ToLongFunction<MarginCourt> call) {
        due(what, state, call, IllegalStateException.class);
    }

    static void outOfBounds(String what, Consumer<MarginCourt> state, ToLongFunction<MarginCourt> call) {
        due(what, state, call, IndexOutOfBoundsException.class);
    }

    static void none(String what, Consumer<MarginCourt> state, ToLongFunction<MarginCourt> call) {
        due(what, state, call, NoSuchElementException.class);
    }

    private static void due(String what, Consumer<MarginCourt> state, ToLongFunction<MarginCourt> call,
            Class<? extends RuntimeException> kind) {
        MarginCourt called = new MarginCourt();
        MarginCourt twin = new MarginCourt();
        state.accept(called);
        state.accept(twin);
        Check.dueThrow(what, () -> call.applyAsLong(called), kind);
        String got = aftermath(called);
        String want = aftermath(twin);
        Check.due(what + " changes nothing", got.equals(want), true);
        if (!got.equals(want)) {
            System.out.println("after the refused call:\n" + got + "without it:\n" + want);
        }
    }

    /** Under 300 calls, so that they are among the 512 that are promised behind up to 100 orders, too. */
    private static String aftermath(MarginCourt court) {
        StringBuilder text = new StringBuilder(Snapshot.of(court, placed(court)));
        for (int p = 0; p < 3; p++) {
            text.append(" price ").append(court.tell(p, 90 + p));
            for (int move = 0; move < 4; move++) {
                text.append(" move ").append(court.setMove(move, p, move - 2));
            }
            int product = p;
            text.append(" next ").append(answer(() -> court.place(product, product, true, 5, 3)));
        }
        for (int k = 0; k < 2; k++) {
            int kind = k;
            for (int m = 0; m < 5; m++) {
                int member = m;
                text.append(" units ").append(answer(() -> court.bring(member, kind, 0)));
            }
            text.append(" haircut ").append(court.tellKind(k, 77));
        }
        for (int i = 0; i < 4; i++) {
            text.append(" hour ").append(court.hour());
        }
        text.append(" evening ").append(court.evening()).append('\n');
        return text.append(Snapshot.of(court, 0)).toString();
    }

    private static int placed(MarginCourt court) {
        int number = 0;
        try {
            for (; number <= 100; number++) {
                court.left(number);
            }
        } catch (IndexOutOfBoundsException none) {
            return number;
        }
        return number;
    }

    private static String answer(Check.Call call) {
        try {
            return Long.toString(call.answer());
        } catch (RuntimeException thrown) {
            return thrown.getClass().getSimpleName();
        }
    }
}
