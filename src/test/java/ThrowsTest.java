import java.util.List;
import java.util.NoSuchElementException;

/** Of several exceptions the one documented first; and a call that throws changes nothing. */
public final class ThrowsTest {
    public static void main(String[] args) {
        MarginCourt court = courtWithAll();
        String before = Snapshot.of(court, 6);
        wrongArguments(court);
        wrongStates(court);
        Check.due("nothing has changed", Snapshot.of(court, 6).equals(before), true);
        Check.due("the moves have not", court.setMove(0, 0, 0), -10);
        Check.due("the prices have not", court.tell(0, 1), 104);
        Check.due("the next number has not", court.place(1, 1, true, 1, 1), 6);
        Check.end();
    }

    /** Member 4 has failed, member 0 lacks something, product 2 is halted, order 5 is cancelled. */
    private static MarginCourt courtWithAll() {
        MarginCourt court = new MarginCourt();
        court.place(3, 1, false, 100, 10);
        court.place(4, 1, true, 110, 10);
        court.tell(1, 90);
        for (int i = 0; i < 3; i++) {
            court.hour();
        }
        court.tell(0, 104);
        court.setMove(0, 0, -10);
        court.pay(0, 30);
        court.bring(0, 1, 2);
        court.contribute(0, 9);
        court.place(0, 0, true, 100, 30);
        court.place(1, 0, false, 100, 7);
        court.place(1, 0, false, 120, 7);
        court.place(2, 2, false, 120, 7);
        court.halt(2, true);
        Check.due("member 4 has failed", court.hasFailed(4), true);
        Check.due("member 0 lacks something", court.free(0), 30 + 180 - 300 + 28);
        return court;
    }

    private static void wrongArguments(MarginCourt court) {
        for (int wrong : List.of(-1, Integer.MIN_VALUE, Integer.MAX_VALUE)) {
            Check.illegal("tell product", () -> court.tell(wrong, 1));
            Check.illegal("tell price", () -> court.tell(0, wrong));
            Check.illegal("setMove move", () -> court.setMove(wrong, 0, 1));
            Check.illegal("setMove product", () -> court.setMove(0, wrong, 1));
            Check.illegal("setMove change", () -> court.setMove(0, 0, wrong == -1 ? 501 : wrong));
            Check.illegal("tellKind kind", () -> court.tellKind(wrong, 1));
            Check.illegal("tellKind price", () -> court.tellKind(0, wrong));
            Check.illegal("pay member", () -> court.pay(wrong, 1));
            Check.illegal("pay amount of a failed one", () -> court.pay(4, wrong == -1 ? -100001 : wrong));
            Check.illegal("bring member", () -> court.bring(wrong, 0, 1));
            Check.illegal("bring kind", () -> court.bring(4, wrong, 1));
            Check.illegal("bring units of a failed one", () -> court.bring(4, 0, wrong == -1 ? -1001 : wrong));
            Check.illegal("contribute member", () -> court.contribute(wrong, 1));
            Check.illegal("contribute amount of a failed one", () -> court.contribute(4, wrong));
            Check.illegal("place member, halted product", () -> court.place(wrong, 2, true, 1, 1));
            Check.illegal("place product of a failed one", () -> court.place(4, wrong, true, 1, 1));
            Check.illegal("place limit of a failed one", () -> court.place(4, 2, true, wrong, 1));
            Check.illegal("place quantity of a failed one", () -> court.place(4, 2, true, 1, wrong));
            Check.dueThrow("cancel", () -> court.cancel(wrong), IndexOutOfBoundsException.class);
            Check.dueThrow("left", () -> court.left(wrong), IndexOutOfBoundsException.class);
            Check.illegal("halt", () -> court.halt(wrong, true));
            Check.illegal("best", () -> court.best(wrong, true));
        }
    }

    private static void wrongStates(MarginCourt court) {
        Check.badState("pay out what is not free", () -> court.pay(0, -1));
        Check.badState("pay of a failed one", () -> court.pay(4, 1));
        Check.badState("take away what is not free", () -> court.bring(0, 1, -1));
        Check.badState("take away what is not there", () -> court.bring(2, 1, -1));
        Check.badState("bring too many", () -> court.bring(0, 1, 999));
        Check.badState("bring of a failed one", () -> court.bring(4, 1, 1));
        Check.badState("contribute of a failed one", () -> court.contribute(4, 1));
        Check.badState("place of a failed one", () -> court.place(4, 0, true, 9999, 1));
        Check.badState("place for a halted product", () -> court.place(0, 2, true, 9999, 1));
        Check.badState("cancel a cancelled one", () -> court.cancel(5));
        Check.badState("cancel a filled one", () -> court.cancel(3));
        Check.dueThrow("best of a halted product", () -> court.best(2, false), NoSuchElementException.class);
    }
}
