/** The edges of promise 2, and of what the terms ask of a, b and n. */
public final class SubmitEdgesTest {
    private static final Due due = new Due("SubmitEdgesTest");
    private static final Twins twins = new Twins(due);
    private static final int MIN = Integer.MIN_VALUE;
    private static final int MAX = Integer.MAX_VALUE;
    // 32 and 44 would be keys for a shift that looks at five bits alone.
    private static final int[] NO_KEYS = {MIN, -1, 12, 32, 44, MAX};
    private static final int[] ENDS_OF_KEYS = {0, 1, 10, 11};
    private static final int NEXT_IN_BUSY = 10;

    public static void main(String[] args) {
        aMustBeAKey();
        bMustBeAKeyWhereItIsLookedAt();
        bIsNotLookedAtInSetAndAdd();
        aAndBMustDifferInMoveAndSwap();
        aAndBMayBeTheSameElsewhere();
        nOfSumMustBeAKey();
        nOfSumMustBeOtherThanAAndB();
        nOfMoveMustBeAtLeastZero();
        nIsFreeElsewhere();
        thereAreTwoSequencers();
        aSequencerThatIsDownTakesNothing();
        thereAreSixKinds();
        anOpenBatchHasAtMostSix();
        sixAreCountedForEachBatch();
        thereAreAtMostAHundred();
        due.end();
    }

    private static void refused(int s, int kind, int a, int b, int n) {
        twins.none(call(s, kind, a, b, n), Scenes::busy, x -> x.submit(s, kind, a, b, n));
    }

    private static void taken(int s, int kind, int a, int b, int n) {
        Counted x = Scenes.busy();
        due.is(call(s, kind, a, b, n), x.submit(s, kind, a, b, n), NEXT_IN_BUSY);
        due.is("status after " + call(s, kind, a, b, n), x.status(NEXT_IN_BUSY), 0);
    }

    private static String call(int s, int kind, int a, int b, int n) {
        return "submit(" + s + ", " + kind + ", " + a + ", " + b + ", " + n + ")";
    }

    // "a (and b where it is looked at) must be keys"
    private static void aMustBeAKey() {
        for (int kind = Steps.MOVE; kind <= Steps.TOP; kind++) {
            for (int a : NO_KEYS) {
                refused(0, kind, a, 5, 6);
            }
            for (int a : ENDS_OF_KEYS) {
                taken(0, kind, a, 5, 6);
            }
        }
    }

    // "a (and b where it is looked at) must be keys"
    private static void bMustBeAKeyWhereItIsLookedAt() {
        int[] kinds = {Steps.MOVE, Steps.SUM, Steps.SWAP, Steps.TOP};
        for (int kind : kinds) {
            for (int b : NO_KEYS) {
                refused(0, kind, 5, b, 6);
            }
            for (int b : ENDS_OF_KEYS) {
                taken(1, kind, 5, b, 6);
            }
        }
    }

    // SET, ADD: "b is not looked at"
    private static void bIsNotLookedAtInSetAndAdd() {
        for (int b : NO_KEYS) {
            taken(0, Steps.SET, 5, b, 6);
            taken(1, Steps.ADD, 5, b, 6);
        }
        for (int b : ENDS_OF_KEYS) {
            taken(1, Steps.SET, 5, b, 6);
            taken(0, Steps.ADD, 5, b, 6);
        }
    }

    // "in MOVE and SWAP they must differ"
    private static void aAndBMustDifferInMoveAndSwap() {
        for (int k : ENDS_OF_KEYS) {
            refused(0, Steps.MOVE, k, k, 1);
            refused(0, Steps.SWAP, k, k, 1);
        }
        for (int k = 1; k < 12; k++) {
            taken(0, Steps.MOVE, k - 1, k, 1);
            taken(0, Steps.MOVE, k, k - 1, 1);
            taken(0, Steps.SWAP, k - 1, k, 1);
            taken(0, Steps.SWAP, k, k - 1, 1);
        }
    }

    // "a and b (which may be the same)" in SUM; of TOP, SET and ADD nothing is asked
    private static void aAndBMayBeTheSameElsewhere() {
        for (int k : ENDS_OF_KEYS) {
            taken(0, Steps.SUM, k, k, 5);
            taken(0, Steps.TOP, k, k, 5);
            taken(0, Steps.SET, k, k, 5);
            taken(0, Steps.ADD, k, k, 5);
        }
    }

    // "in SUM n must be a key other than a and b"
    private static void nOfSumMustBeAKey() {
        for (int n : NO_KEYS) {
            refused(0, Steps.SUM, 4, 5, n);
            refused(0, Steps.SUM, 4, 4, n);
        }
        for (int n : ENDS_OF_KEYS) {
            taken(0, Steps.SUM, 4, 5, n);
            taken(0, Steps.SUM, 4, 4, n);
        }
    }

    // "in SUM n must be a key other than a and b (which may be the same)"
    private static void nOfSumMustBeOtherThanAAndB() {
        for (int n : ENDS_OF_KEYS) {
            refused(0, Steps.SUM, n, 5, n);
            refused(0, Steps.SUM, 5, n, n);
            refused(0, Steps.SUM, n, n, n);
        }
        for (int n = 1; n < 11; n++) {
            taken(0, Steps.SUM, n - 1, n + 1, n);
            taken(0, Steps.SUM, n + 1, n - 1, n);
        }
    }

    // "in MOVE n must be at least 0"
    private static void nOfMoveMustBeAtLeastZero() {
        refused(0, Steps.MOVE, 0, 1, -1);
        refused(0, Steps.MOVE, 0, 1, -2);
        refused(0, Steps.MOVE, 0, 1, MIN);
        taken(0, Steps.MOVE, 0, 1, 0);
        taken(0, Steps.MOVE, 0, 1, 1);
        taken(0, Steps.MOVE, 0, 1, MAX);
    }

    private static void nIsFreeElsewhere() {
        int[] kinds = {Steps.SET, Steps.SWAP, Steps.ADD, Steps.TOP};
        int[] all = {MIN, -1, 0, 1, 12, MAX};
        for (int kind : kinds) {
            for (int n : all) {
                taken(0, kind, 0, 1, n);
            }
        }
    }

    // "Refused with NONE when there is no sequencer s"
    private static void thereAreTwoSequencers() {
        int[] none = {MIN, -1, 2, 3, MAX};
        for (int s : none) {
            refused(s, Steps.SET, 0, 0, 1);
        }
        taken(0, Steps.SET, 0, 0, 1);
        taken(1, Steps.SET, 0, 0, 1);
    }

    // "or it is down"
    private static void aSequencerThatIsDownTakesNothing() {
        for (int s = 0; s < 2; s++) {
            int down = s;
            twins.none("submit to " + s + " that is down", () -> withSequencerDown(down),
                    x -> x.submit(down, Steps.SET, 0, 0, 1));
            Counted x = withSequencerDown(s);
            due.is("submit to the other", x.submit(1 - s, Steps.SET, 0, 0, 1), NEXT_IN_BUSY);
            x.restart(Steps.SEQUENCER + s);
            due.is("submit to it when it is up again", x.submit(s, Steps.SET, 0, 0, 1), NEXT_IN_BUSY + 1);
        }
    }

    private static Counted withSequencerDown(int s) {
        Counted x = Scenes.busy();
        x.crash(Steps.SEQUENCER + s);
        return x;
    }

    // "there is no such kind"
    private static void thereAreSixKinds() {
        int[] none = {MIN, -1, 6, 7, MAX};
        for (int kind : none) {
            refused(0, kind, 0, 1, 2);
        }
        for (int kind = Steps.MOVE; kind <= Steps.TOP; kind++) {
            taken(0, kind, 0, 1, 2);
        }
    }

    // "its open batch has six": five in it, and six
    private static void anOpenBatchHasAtMostSix() {
        for (int s = 0; s < 2; s++) {
            int full = s;
            due.is("the sixth to " + s, openBatch(s, 5).submit(s, Steps.SET, 0, 0, 1), 5);
            for (int kind = Steps.MOVE; kind <= Steps.TOP; kind++) {
                int seventh = kind;
                twins.none("the seventh to " + s, () -> openBatch(full, 6), x -> x.submit(full, seventh, 0, 1, 2));
            }
            due.is("to the other", openBatch(s, 6).submit(1 - s, Steps.SET, 0, 0, 1), 6);
        }
    }

    private static Counted openBatch(int s, int count) {
        Counted x = new Counted(2);
        Steps.submitAdds(x, s, 3, count);
        return x;
    }

    private static void sixAreCountedForEachBatch() {
        Counted x = openBatch(0, 6);
        x.close(0);
        for (int i = 6; i < 12; i++) {
            due.is("submit after close", x.submit(0, Steps.SET, 0, 0, 1), i);
        }
        due.is("the seventh after close", x.submit(0, Steps.SET, 0, 0, 1), -1);
        x.crash(Steps.SEQUENCER);
        x.restart(Steps.SEQUENCER);
        for (int i = 12; i < 18; i++) {
            due.is("submit after a crash", x.submit(0, Steps.SET, 0, 0, 1), i);
        }
        due.is("the seventh after a crash", x.submit(0, Steps.SET, 0, 0, 1), -1);
    }

    // "or there are 100 transactions": 99 of them, and 100
    private static void thereAreAtMostAHundred() {
        due.is("the 99th", Scenes.transactions(98).submit(0, Steps.SET, 0, 0, 1), 98);
        due.is("the 100th", Scenes.transactions(99).submit(0, Steps.SET, 0, 0, 1), 99);
        due.is("the 100th to the other", Scenes.transactions(99).submit(1, Steps.SET, 0, 0, 1), 99);
        twins.none("the 101st", () -> Scenes.transactions(100), x -> x.submit(0, Steps.SET, 0, 0, 1));
        twins.none("the 101st to the other", () -> Scenes.transactions(100), x -> x.submit(1, Steps.SET, 0, 0, 1));
    }
}
