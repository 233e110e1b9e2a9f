import java.util.function.Consumer;
import java.util.function.ToLongFunction;

/**
 * What a state refuses: the last call that is taken, the first one that is not, and that the
 * refused one changes nothing. And of several exceptions the one that is documented first.
 */
public final class StatesTest {
    public static void main(String[] args) {
        promise05PayOutWhatIsFree();
        promise05PayWhileSomethingLacks();
        promise06UnitsFromNoneToAThousand();
        promise06TakeAwayWhatIsFree();
        promise06TakeAwayIsRoundedWithTheRest();
        promise06TakeAwayWhileSomethingLacks();
        promises05To08Failed();
        promise08Halted();
        promise08HundredPlaced();
        promise08RefusedOnesHaveNoNumber();
        promise09OnlyThoseThatRest();
        promise12NoneOnASide();
        firstDocumentedComesFirst();
        Check.end();
    }

    private static void dueIn(String what, Consumer<MarginCourt> state, ToLongFunction<MarginCourt> call, long want) {
        MarginCourt court = new MarginCourt();
        state.accept(court);
        Check.due(what, call.applyAsLong(court), want);
    }

    /** Member 0: cash 40, 2 units that count for 180, a margin of 150, so 70 free. */
    private static void seventyFree(MarginCourt court) {
        court.pay(0, 40);
        court.bring(0, 0, 2);
        court.setMove(3, 1, -10);
        court.place(0, 1, true, 100, 15);
    }

    private static void promise05PayOutWhatIsFree() {
        dueIn("free", StatesTest::seventyFree, court -> court.free(0), 70);
        dueIn("one less", StatesTest::seventyFree, court -> court.pay(0, -69), -29);
        dueIn("all of it", StatesTest::seventyFree, court -> court.pay(0, -70), -30);
        Refusal.badState("one more", StatesTest::seventyFree, court -> court.pay(0, -71));
        Refusal.badState("the most", StatesTest::seventyFree, court -> court.pay(0, -100000));
        Consumer<MarginCourt> nothingFree = court -> {
            seventyFree(court);
            court.pay(0, -70);
        };
        dueIn("0 free is left", nothingFree, court -> court.free(0), 0);
        dueIn("paying nothing out of it", nothingFree, court -> court.pay(0, 0), -30);
        Refusal.badState("the least out of nothing", nothingFree, court -> court.pay(0, -1));
        Refusal.badState("out of a new account", court -> court.pay(1, 5), court -> court.pay(0, -1));
    }

    private static void promise05PayWhileSomethingLacks() {
        Consumer<MarginCourt> lacking = court -> {
            seventyFree(court);
            court.setMove(3, 1, -15);
        };
        dueIn("free", lacking, court -> court.free(0), -5);
        dueIn("nothing is not below 0", lacking, court -> court.pay(0, 0), 40);
        dueIn("in, though not enough", lacking, court -> court.pay(0, 1), 41);
        Refusal.badState("the least out", lacking, court -> court.pay(0, -1));
    }

    private static void promise06UnitsFromNoneToAThousand() {
        Consumer<MarginCourt> almostAll = court -> court.bring(2, 1, 999);
        dueIn("999 and 1", almostAll, court -> court.bring(2, 1, 1), 1000);
        Refusal.badState("999 and 2", almostAll, court -> court.bring(2, 1, 2));
        Refusal.badState("999 and 1000", almostAll, court -> court.bring(2, 1, 1000));
        dueIn("the other kind has its own units", almostAll, court -> court.bring(2, 0, 1000), 1000);
        Consumer<MarginCourt> all = court -> court.bring(2, 1, 1000);
        dueIn("1000 and 0", all, court -> court.bring(2, 1, 0), 1000);
        Refusal.badState("1000 and 1", all, court -> court.bring(2, 1, 1));
        Consumer<MarginCourt> three = court -> {
            court.pay(2, 1000);
            court.bring(2, 1, 3);
        };
        dueIn("3 less 2", three, court -> court.bring(2, 1, -2), 1);
        dueIn("3 less 3", three, court -> court.bring(2, 1, -3), 0);
        Refusal.badState("3 less 4", three, court -> court.bring(2, 1, -4));
        Refusal.badState("0 less 1, of the other kind", three, court -> court.bring(2, 0, -1));
        Refusal.badState("0 less 1, of another member", three, court -> court.bring(3, 1, -1));
    }

    private static void promise06TakeAwayWhatIsFree() {
        Consumer<MarginCourt> justOne = court -> {
            seventyFree(court);
            court.pay(0, 20);
        };
        dueIn("free", justOne, court -> court.free(0), 90);
        dueIn("a unit that counts for as much", justOne, court -> court.bring(0, 0, -1), 1);
        Refusal.badState("two of them", justOne, court -> court.bring(0, 0, -2));
        Consumer<MarginCourt> oneLess = court -> {
            justOne.accept(court);
            court.pay(0, -1);
        };
        Refusal.badState("a unit that counts for one more", oneLess, court -> court.bring(0, 0, -1));
    }

    /** 9 units count for 809.01, 8 for 719.12, so that the ninth counts for 90, though alone for 89. */
    private static Consumer<MarginCourt> nineUnits(int margin) {
        return court -> {
            court.tellKind(0, 101);
            court.bring(0, 0, 9);
            court.setMove(0, 1, -1);
            for (int open = margin; open > 0; open -= 100) {
                court.place(0, 1, true, 100, Math.min(open, 100));
            }
        };
    }

    private static void promise06TakeAwayIsRoundedWithTheRest() {
        dueIn("9 units", nineUnits(719), court -> court.collateral(0), 809);
        dueIn("90 free", nineUnits(719), court -> court.free(0), 90);
        dueIn("just enough", nineUnits(719), court -> court.bring(0, 0, -1), 8);
        dueIn("89 free", nineUnits(720), court -> court.free(0), 89);
        Refusal.badState("one too little", nineUnits(720), court -> court.bring(0, 0, -1));
    }

    private static void promise06TakeAwayWhileSomethingLacks() {
        Consumer<MarginCourt> lacking = court -> {
            seventyFree(court);
            court.tellKind(1, 1);
            court.bring(0, 1, 9);
            court.setMove(3, 1, -15);
        };
        dueIn("free", lacking, court -> court.free(0), -5);
        dueIn("nothing is not below 0", lacking, court -> court.bring(0, 1, 0), 9);
        dueIn("more, though not enough", lacking, court -> court.bring(0, 1, 1), 10);
        Refusal.badState("units that count for nothing", lacking, court -> court.bring(0, 1, -1));
        Refusal.badState("units that count", lacking, court -> court.bring(0, 0, -1));
    }

    /** Member 2 failed, keeps 100 of cash and 7 of its share, and others have orders. */
    private static void memberTwoFailed(MarginCourt court) {
        court.pay(2, 10);
        court.bring(2, 0, 1);
        court.contribute(2, 7);
        court.setMove(0, 0, -50);
        Steps.trade(court, 2, 1, 0, 100, 10);
        Steps.hours(court, 3);
        court.place(1, 1, false, 50, 5);
    }

    private static void promises05To08Failed() {
        dueIn("failed", StatesTest::memberTwoFailed, court -> court.hasFailed(2) ? 1 : 0, 1);
        dueIn("with cash", StatesTest::memberTwoFailed, court -> court.free(2), 100);
        for (int amount : new int[] {-100000, -1, 0, 1, 100000}) {
            Refusal.badState("pay " + amount, StatesTest::memberTwoFailed, court -> court.pay(2, amount));
        }
        for (int units : new int[] {-1000, -1, 0, 1, 1000}) {
            Refusal.badState("bring " + units, StatesTest::memberTwoFailed, court -> court.bring(2, 0, units));
        }
        Refusal.badState("contribute the least", StatesTest::memberTwoFailed, court -> court.contribute(2, 1));
        Refusal.badState("contribute the most", StatesTest::memberTwoFailed, court -> court.contribute(2, 100000));
        Refusal.badState("buy", StatesTest::memberTwoFailed, court -> court.place(2, 1, true, 60, 1));
        Refusal.badState("sell", StatesTest::memberTwoFailed, court -> court.place(2, 2, false, 60, 1));
        dueIn("one that has not failed pays", StatesTest::memberTwoFailed, court -> court.pay(3, 1), 1);
        dueIn("one that has not failed places", StatesTest::memberTwoFailed, court -> court.place(3, 1, true, 60, 1), 3);
    }

    private static void productOneHalted(MarginCourt court) {
        court.place(0, 0, true, 50, 5);
        court.place(0, 1, true, 50, 5);
        court.place(0, 1, false, 60, 5);
        court.place(0, 2, true, 50, 5);
        court.halt(1, true);
    }

    private static void promise08Halted() {
        Refusal.badState("to buy", StatesTest::productOneHalted, court -> court.place(1, 1, true, 50, 5));
        Refusal.badState("to sell", StatesTest::productOneHalted, court -> court.place(1, 1, false, 50, 5));
        dueIn("the product below", StatesTest::productOneHalted, court -> court.place(1, 0, false, 50, 5), 4);
        dueIn("the product above", StatesTest::productOneHalted, court -> court.place(1, 2, false, 50, 5), 4);
        Consumer<MarginCourt> twice = court -> {
            productOneHalted(court);
            court.halt(1, true);
        };
        Refusal.badState("halted twice", twice, court -> court.place(1, 1, true, 50, 5));
        Consumer<MarginCourt> goesOn = court -> {
            twice.accept(court);
            court.halt(1, false);
        };
        dueIn("goes on by one call", goesOn, court -> court.place(1, 1, true, 50, 5), 4);
    }

    private static void placedInAll(MarginCourt court, int orders) {
        for (int i = 0; i < orders; i++) {
            court.place(i % 5, i % 3, i % 2 == 0, 100, 1);
        }
    }

    private static void promise08HundredPlaced() {
        dueIn("the 99th", court -> placedInAll(court, 98), court -> court.place(0, 0, true, 1, 1), 98);
        dueIn("the 100th", court -> placedInAll(court, 99), court -> court.place(0, 0, true, 1, 1), 99);
        Refusal.badState("the 101st", court -> placedInAll(court, 100), court -> court.place(0, 0, true, 1, 1));
        Consumer<MarginCourt> noneRests = court -> {
            placedInAll(court, 100);
            for (int p = 0; p < 3; p++) {
                court.halt(p, true);
                court.halt(p, false);
            }
        };
        Refusal.badState("placed ones count though none rests", noneRests, court -> court.place(0, 0, true, 1, 1));
        MarginCourt last = new MarginCourt();
        placedInAll(last, 99);
        last.halt(0, true);
        last.halt(0, false);
        last.place(1, 0, false, 70, 5);
        Check.due("the last number is the best one", last.best(0, false), 99);
        Check.due("the last number is cancelled", last.cancel(99), 5);
    }

    private static void promise08RefusedOnesHaveNoNumber() {
        MarginCourt court = new MarginCourt();
        memberTwoFailed(court);
        court.halt(2, true);
        int next = 3;
        Check.badState("failed", () -> court.place(2, 1, true, 1, 1));
        Check.badState("halted", () -> court.place(3, 2, true, 1, 1));
        Check.illegal("out of range", () -> court.place(3, 1, true, 0, 1));
        Check.dueThrow("no number", () -> court.left(next), IndexOutOfBoundsException.class);
        Check.due("the next number", court.place(3, 1, true, 1, 1), next);
    }

    /** Filled, filled, with 1 left, cancelled, cancelled by an own one, resting, cancelled by a halt, filled. */
    private static void allKindsOfOrders(MarginCourt court) {
        court.place(0, 0, true, 100, 4);
        court.place(1, 0, false, 100, 4);
        court.place(0, 0, true, 90, 3);
        court.place(2, 1, true, 90, 3);
        court.place(3, 1, true, 80, 3);
        court.cancel(3);
        court.place(3, 1, false, 80, 2);
        court.place(4, 2, false, 80, 2);
        court.halt(2, true);
        court.place(1, 0, false, 90, 2);
    }

    private static void promise09OnlyThoseThatRest() {
        int[] left = {0, 0, 1, 0, 0, 2, 0, 0};
        for (int order = 0; order < left.length; order++) {
            int number = order;
            dueIn("left of " + number, StatesTest::allKindsOfOrders, court -> court.left(number), left[order]);
            if (left[order] > 0) {
                dueIn("cancel " + number, StatesTest::allKindsOfOrders, court -> court.cancel(number), left[order]);
            } else {
                Refusal.badState("cancel " + number, StatesTest::allKindsOfOrders, court -> court.cancel(number));
            }
        }
        Consumer<MarginCourt> closedOut = court -> {
            court.setMove(0, 0, -10);
            court.place(1, 0, true, 50, 5);
            Steps.hours(court, 3);
        };
        Refusal.badState("cancel one that closing out has cancelled", closedOut, court -> court.cancel(0));
    }

    private static void promise12NoneOnASide() {
        Refusal.none("to sell while some are to buy", court -> court.place(0, 1, true, 5, 5), court -> court.best(1, false));
        Refusal.none("to buy while some are to sell", court -> court.place(0, 1, false, 5, 5), court -> court.best(1, true));
        Refusal.none("of another product", court -> court.place(0, 1, true, 5, 5), court -> court.best(2, true));
        Refusal.none("in a new house", court -> court.pay(0, 1), court -> court.best(0, true));
        Consumer<MarginCourt> filled = court -> Steps.trade(court, 0, 1, 0, 100, 5);
        Refusal.none("when all are filled: to buy", filled, court -> court.best(0, true));
        Refusal.none("when all are filled: to sell", filled, court -> court.best(0, false));
        Refusal.none("when halted", StatesTest::productOneHalted, court -> court.best(1, true));
        dueIn("one with 1 left", StatesTest::allKindsOfOrders, court -> court.best(0, true), 2);
    }

    private static void firstDocumentedComesFirst() {
        Consumer<MarginCourt> failedAndHalted = court -> {
            memberTwoFailed(court);
            court.halt(0, true);
        };
        Refusal.illegal("pay", failedAndHalted, court -> court.pay(2, -100001));
        Refusal.illegal("bring too much", failedAndHalted, court -> court.bring(2, 0, 1001));
        Refusal.illegal("bring of no kind", failedAndHalted, court -> court.bring(2, 2, -1));
        Refusal.illegal("contribute", failedAndHalted, court -> court.contribute(2, 0));
        Refusal.illegal("place for no member", failedAndHalted, court -> court.place(5, 0, true, 1, 1));
        Refusal.illegal("place for no product", failedAndHalted, court -> court.place(2, 3, true, 1, 1));
        Refusal.illegal("place with no limit", failedAndHalted, court -> court.place(2, 0, true, 0, 1));
        Refusal.illegal("place too much", failedAndHalted, court -> court.place(2, 0, true, 1, 101));
        Refusal.illegal("place the 101st with no limit", court -> placedInAll(court, 100),
                court -> court.place(0, 0, true, 10000, 1));
        Refusal.illegal("best of no product", failedAndHalted, court -> court.best(3, true));
        Refusal.outOfBounds("cancel no order", failedAndHalted, court -> court.cancel(4));
    }
}
