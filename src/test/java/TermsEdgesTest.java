import java.util.Arrays;

/** The edges that the terms name for values and kinds of transactions, and the number of calls. */
public final class TermsEdgesTest {
    private static final Due due = new Due("TermsEdgesTest");
    private static final int MIN = Integer.MIN_VALUE;
    private static final int MAX = Integer.MAX_VALUE;
    // The keys of a, b and n: for most numbers of partitions they are apart.
    private static final int A = 1;
    private static final int B = 6;
    private static final int N = 11;

    public static void main(String[] args) {
        the512thCallIsAnswered();
        laterCallsThrowNothing();
        moveNeedsAtLeastN();
        moveWraps();
        sumWraps();
        sumOfOneKey();
        setTakesAnyValue();
        swapOfAnyValues();
        addWraps();
        topNeedsAGreaterValue();
        topOfOneKey();
        bOfSetAndAddIsNotLookedAt();
        replicasExecuteAlike();
        due.end();
    }

    // "An object is used for at most 512 calls after it has been made"
    private static void the512thCallIsAnswered() {
        Counted x = Scenes.unfinished(1);
        x.look(0, 0, 0);
        while (x.calls() < Counted.MOST_CALLS - 2) {
            x.messages();
        }
        due.is("the 511th call", x.admit(0, 0), 1);
        due.is("the 512th call", x.value(0, 0), 101);
        due.is("calls", x.calls(), 512);
    }

    // "what later calls answer is free": but they end, and throw nothing
    private static void laterCallsThrowNothing() {
        SequencedBatches x = new SequencedBatches(3);
        for (int i = 0; i < 4000; i++) {
            x.submit(i % 3, i % 7, i % 12, i * 5 % 12, i * 7 % 12);
            x.close(i / 3 % 2);
            x.deliver(i % 5);
            x.deliver(0);
            x.resend(i % 2, i / 2 % 20);
            x.admit(i % 2, i % 3);
            x.look(i % 2, i % 3, i % 4);
            x.checkpoint(i % 2);
            if (i % 50 == 0) {
                x.crash(i / 50 % 7);
            }
            if (i % 50 == 25) {
                x.restart(i / 50 % 7);
            }
        }
        due.is("status(0) is a status", x.status(0) >= -1 && x.status(0) <= 3, true);
    }

    /** For each number of partitions: a and b have these values before, and the keys have those after. */
    private static void outcome(int kind, int n, int[] before, int afterA, int afterB, int afterN) {
        for (int partitions = 1; partitions <= 4; partitions++) {
            Counted x = new Counted(partitions);
            x.submit(0, Steps.SET, A, 0, before[0]);
            x.submit(0, Steps.SET, B, 0, before[1]);
            x.submit(0, kind, A, B, n);
            Steps.closeAndDecide(x, 0);
            execute(x, 0, partitions);
            String name = "kind " + kind + " of " + Arrays.toString(before) + " with " + n + " in " + partitions;
            for (int k = 0; k < 12; k++) {
                int want = k == A ? afterA : k == B ? afterB : k == N ? afterN : 100;
                due.is("key " + k + " after " + name, x.value(0, k), want);
            }
        }
    }

    private static void execute(Counted x, int r, int partitions) {
        Steps.admitInAll(x, r, partitions, 6);
        for (int i = 0; i < 6; i++) {
            for (int p = 0; p < partitions; p++) {
                x.look(r, p, 0);
            }
            Steps.deliverAll(x);
        }
    }

    private static int[] of(int valueOfA, int valueOfB) {
        return new int[] {valueOfA, valueOfB};
    }

    // MOVE: "if the value of a is at least n, ..; otherwise nothing changes"
    private static void moveNeedsAtLeastN() {
        outcome(Steps.MOVE, 30, of(29, 7), 29, 7, 100);
        outcome(Steps.MOVE, 30, of(30, 7), 0, 37, 100);
        outcome(Steps.MOVE, 30, of(31, 7), 1, 37, 100);
        outcome(Steps.MOVE, 0, of(-1, 7), -1, 7, 100);
        outcome(Steps.MOVE, 0, of(0, 7), 0, 7, 100);
        outcome(Steps.MOVE, 1, of(0, 7), 0, 7, 100);
        outcome(Steps.MOVE, 1, of(1, 7), 0, 8, 100);
        outcome(Steps.MOVE, MAX, of(MAX - 1, 0), MAX - 1, 0, 100);
        outcome(Steps.MOVE, MAX, of(MAX, 0), 0, MAX, 100);
        // A difference that wraps would be taken for a greater value here.
        outcome(Steps.MOVE, 1, of(MIN, 7), MIN, 7, 100);
        outcome(Steps.MOVE, MAX, of(MIN, 7), MIN, 7, 100);
        outcome(Steps.MOVE, MAX, of(-2, 7), -2, 7, 100);
    }

    // "values are ints (sums and differences wrap)"
    private static void moveWraps() {
        outcome(Steps.MOVE, 5, of(5, MAX - 5), 0, MAX, 100);
        outcome(Steps.MOVE, 5, of(5, MAX - 4), 0, MIN, 100);
        outcome(Steps.MOVE, MAX, of(MAX, MAX), 0, -2, 100);
        outcome(Steps.MOVE, MAX, of(MAX, MIN), 0, -1, 100);
    }

    private static void sumWraps() {
        outcome(Steps.SUM, N, of(MAX - 1, 1), MAX - 1, 1, MAX);
        outcome(Steps.SUM, N, of(MAX, 1), MAX, 1, MIN);
        outcome(Steps.SUM, N, of(1, MAX), 1, MAX, MIN);
        outcome(Steps.SUM, N, of(MAX, MAX), MAX, MAX, -2);
        outcome(Steps.SUM, N, of(MIN, 0), MIN, 0, MIN);
        outcome(Steps.SUM, N, of(MIN, -1), MIN, -1, MAX);
        outcome(Steps.SUM, N, of(MIN, MIN), MIN, MIN, 0);
        outcome(Steps.SUM, N, of(MIN, MAX), MIN, MAX, -1);
    }

    // "a and b (which may be the same)"
    private static void sumOfOneKey() {
        int[] values = {21, 0, -4, MAX, MIN};
        int[] sums = {42, 0, -8, -2, 0};
        for (int i = 0; i < values.length; i++) {
            for (int partitions = 1; partitions <= 4; partitions++) {
                Counted x = new Counted(partitions);
                x.submit(0, Steps.SET, A, 0, values[i]);
                x.submit(0, Steps.SUM, A, A, B);
                Steps.closeAndDecide(x, 0);
                execute(x, 1, partitions);
                due.is("the sum of " + values[i] + " with itself", x.value(1, B), sums[i]);
                due.is("what is read stays", x.value(1, A), values[i]);
            }
        }
    }

    private static void setTakesAnyValue() {
        int[] values = {MIN, -1, 0, 1, 100, MAX};
        for (int n : values) {
            outcome(Steps.SET, n, of(3, 4), n, 4, 100);
        }
    }

    private static void swapOfAnyValues() {
        outcome(Steps.SWAP, 9, of(3, 4), 4, 3, 100);
        outcome(Steps.SWAP, 9, of(5, 5), 5, 5, 100);
        outcome(Steps.SWAP, MIN, of(MIN, MAX), MAX, MIN, 100);
    }

    private static void addWraps() {
        outcome(Steps.ADD, 1, of(MAX - 1, 4), MAX, 4, 100);
        outcome(Steps.ADD, 1, of(MAX, 4), MIN, 4, 100);
        outcome(Steps.ADD, -1, of(MIN + 1, 4), MIN, 4, 100);
        outcome(Steps.ADD, -1, of(MIN, 4), MAX, 4, 100);
        outcome(Steps.ADD, 0, of(MIN, 4), MIN, 4, 100);
        outcome(Steps.ADD, MIN, of(0, 4), MIN, 4, 100);
        outcome(Steps.ADD, MIN, of(-1, 4), MAX, 4, 100);
        outcome(Steps.ADD, MIN, of(MIN, 4), 0, 4, 100);
        outcome(Steps.ADD, MAX, of(MAX, 4), -2, 4, 100);
    }

    // TOP: "the value of b becomes that of a if that is greater; otherwise it stays"
    private static void topNeedsAGreaterValue() {
        outcome(Steps.TOP, 0, of(49, 50), 49, 50, 100);
        outcome(Steps.TOP, 0, of(50, 50), 50, 50, 100);
        outcome(Steps.TOP, 0, of(51, 50), 51, 51, 100);
        outcome(Steps.TOP, 0, of(-1, 0), -1, 0, 100);
        outcome(Steps.TOP, 0, of(0, -1), 0, 0, 100);
        // A difference that wraps would turn these round.
        outcome(Steps.TOP, 0, of(MAX, MIN), MAX, MAX, 100);
        outcome(Steps.TOP, 0, of(MIN, MAX), MIN, MAX, 100);
        outcome(Steps.TOP, 0, of(MAX, -1), MAX, MAX, 100);
        outcome(Steps.TOP, 0, of(-2, MAX), -2, MAX, 100);
    }

    private static void topOfOneKey() {
        Counted x = new Counted(3);
        x.submit(0, Steps.SET, 4, 0, -8);
        x.submit(0, Steps.TOP, 4, 4, 0);
        Steps.closeAndDecide(x, 0);
        execute(x, 0, 3);
        due.is("it stays", x.value(0, 4), -8);
        due.is("finished", x.checkpoint(0), 2);
    }

    // SET, ADD: "b is not looked at": whatever it is, its key and its partition have no part in it
    private static void bOfSetAndAddIsNotLookedAt() {
        int[] all = {MIN, -1, 0, 1, 11, 12, MAX};
        for (int b : all) {
            for (int kind = Steps.SET; kind <= Steps.ADD; kind += Steps.ADD - Steps.SET) {
                Counted x = new Counted(2);
                x.submit(0, kind, 4, b, 50);
                Steps.closeAndDecide(x, 0);
                Steps.admitInAll(x, 0, 2, 1);
                due.is("partition 1 has no part, b " + b, x.finished(0, 1), 1);
                for (int k = 0; k < 12; k++) {
                    due.is("locks(0, " + k + ")", x.locks(0, k), k == 4 ? 1 : 0);
                }
                x.look(0, 0, 0);
                due.is("messages()", x.messages(), 0);
                due.is("value", x.value(0, 4), kind == Steps.SET ? 50 : 150);
            }
        }
    }

    // "every replica executes the transactions in the order of the log"
    private static void replicasExecuteAlike() {
        for (int partitions = 1; partitions <= 4; partitions++) {
            Counted x = new Counted(partitions);
            x.submit(1, Steps.ADD, 2, 0, 1000);
            x.submit(0, Steps.MOVE, 0, 1, 60);
            x.submit(0, Steps.SWAP, 1, 2, 0);
            x.submit(0, Steps.MOVE, 0, 1, 60);
            x.submit(1, Steps.SUM, 2, 0, 3);
            x.submit(1, Steps.TOP, 3, 0, 0);
            Steps.closeAndDecide(x, 1);
            Steps.closeAndDecide(x, 0);
            int[] values = {1200, 100, 1160, 1200};
            for (int r = 0; r < 2; r++) {
                execute(x, r, partitions);
                for (int k = 0; k < 4; k++) {
                    due.is("value(" + r + ", " + k + ") in " + partitions, x.value(r, k), values[k]);
                }
                due.is("checkpoint(" + r + ")", x.checkpoint(r), 6);
            }
        }
    }
}
