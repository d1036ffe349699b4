/** Promise 2, and promise 15 for open batches. */
public final class SubmitTest {
    private static final Due due = new Due("SubmitTest");

    public static void main(String[] args) {
        numbersGoUpOverBothSequencers();
        wrongInputsAreRefused();
        edgesOfInputsAreTaken();
        refusedCallsChangeNothing();
        batchTakesSix();
        downSequencerRefuses();
        thereAreAtMostAHundred();
        due.end();
    }

    private static void numbersGoUpOverBothSequencers() {
        Counted x = new Counted(2);
        due.is("first", x.submit(1, Steps.SET, 0, 0, 1), 0);
        due.is("second", x.submit(0, Steps.SET, 0, 0, 2), 1);
        due.is("third", x.submit(1, Steps.ADD, 0, 0, 3), 2);
        due.is("status(0)", x.status(0), 0);
        due.is("status(2)", x.status(2), 0);
        due.is("status(3)", x.status(3), -1);
        due.is("status(-1)", x.status(-1), -1);
    }

    private static final int[][] WRONG = {
        {-1, 2, 0, 0, 0}, {2, 2, 0, 0, 0}, {Integer.MAX_VALUE, 2, 0, 0, 0}, {Integer.MIN_VALUE, 2, 0, 0, 0},
        {0, -1, 0, 1, 2}, {0, 6, 0, 1, 2}, {0, Integer.MAX_VALUE, 0, 1, 2}, {0, Integer.MIN_VALUE, 0, 1, 2},
        {0, 0, -1, 1, 0}, {0, 0, 12, 1, 0}, {0, 0, 1, -1, 0}, {0, 0, 1, 12, 0}, {0, 0, 4, 4, 0}, {0, 0, 0, 1, -1},
        {0, 0, 0, 1, Integer.MIN_VALUE}, {0, 0, 32, 1, 0}, {0, 0, 0, 33, 0},
        {0, 1, -1, 1, 2}, {0, 1, 12, 1, 2}, {0, 1, 1, -1, 2}, {0, 1, 1, 12, 2}, {0, 1, 1, 2, -1}, {0, 1, 1, 2, 12},
        {0, 1, 1, 2, 1}, {0, 1, 1, 2, 2}, {0, 1, 3, 3, 3}, {0, 1, 1, 2, 35},
        {0, 2, -1, 1, 0}, {0, 2, 12, 1, 0}, {0, 2, Integer.MIN_VALUE, 1, 0},
        {0, 3, -1, 1, 0}, {0, 3, 12, 1, 0}, {0, 3, 1, -1, 0}, {0, 3, 1, 12, 0}, {0, 3, 7, 7, 0},
        {0, 4, -1, 1, 0}, {0, 4, 12, 1, 0}, {0, 4, Integer.MAX_VALUE, 1, 0},
        {0, 5, -1, 1, 0}, {0, 5, 12, 1, 0}, {0, 5, 1, -1, 0}, {0, 5, 1, 12, 0},
    };

    private static void wrongInputsAreRefused() {
        Counted x = new Counted(4);
        for (int[] w : WRONG) {
            due.is("submit" + java.util.Arrays.toString(w), x.submit(w[0], w[1], w[2], w[3], w[4]), -1);
        }
        due.is("status(0)", x.status(0), -1);
    }

    private static final int[][] RIGHT = {
        {0, 0, 0, 11, 0}, {0, 0, 11, 0, Integer.MAX_VALUE}, {1, 1, 0, 0, 11}, {1, 1, 11, 10, 0},
        {0, 2, 0, Integer.MIN_VALUE, Integer.MIN_VALUE}, {0, 2, 11, 12, -1}, {1, 3, 0, 11, Integer.MIN_VALUE},
        {0, 4, 11, Integer.MAX_VALUE, -1}, {0, 4, 0, -1, Integer.MAX_VALUE}, {1, 5, 11, 0, Integer.MIN_VALUE},
        {1, 5, 6, 6, -1},
    };

    private static void edgesOfInputsAreTaken() {
        Counted x = new Counted(4);
        for (int i = 0; i < RIGHT.length; i++) {
            int[] w = RIGHT[i];
            due.is("submit" + java.util.Arrays.toString(w), x.submit(w[0], w[1], w[2], w[3], w[4]), i);
        }
    }

    private static void refusedCallsChangeNothing() {
        Counted x = new Counted(2);
        x.submit(0, Steps.SET, 0, 0, 1);
        for (int[] w : WRONG) {
            x.submit(w[0], w[1], w[2], w[3], w[4]);
        }
        for (int i = 1; i < 6; i++) {
            due.is("submit " + i, x.submit(0, Steps.SET, 0, 0, 1), i);
        }
        x.submit(0, Steps.SET, 0, 0, 1);
        Steps.closeAndDecide(x, 0);
        due.is("logged(0, 5)", x.logged(0, 5), 5);
        due.is("logged(0, 6)", x.logged(0, 6), -1);
    }

    private static void batchTakesSix() {
        Counted x = new Counted(2);
        for (int i = 0; i < 6; i++) {
            due.is("submit " + i, x.submit(1, Steps.ADD, i, 0, 1), i);
        }
        due.is("a seventh", x.submit(1, Steps.ADD, 0, 0, 1), -1);
        due.is("status(6)", x.status(6), -1);
        due.is("the other sequencer", x.submit(0, Steps.ADD, 0, 0, 1), 6);
        x.close(1);
        due.is("after close", x.submit(1, Steps.ADD, 0, 0, 1), 7);
    }

    private static void downSequencerRefuses() {
        Counted x = new Counted(2);
        x.crash(Steps.SEQUENCER);
        due.is("down", x.submit(0, Steps.SET, 0, 0, 1), -1);
        due.is("the other", x.submit(1, Steps.SET, 0, 0, 1), 0);
        x.restart(Steps.SEQUENCER);
        due.is("up again", x.submit(0, Steps.SET, 0, 0, 1), 1);
    }

    private static void thereAreAtMostAHundred() {
        Counted x = new Counted(1);
        int number = 0;
        // A crash takes a batch away without a slot; its transactions count all the same.
        for (int round = 0; round < 16; round++) {
            for (int i = 0; i < 6; i++) {
                due.is("submit", x.submit(0, Steps.SET, 0, 0, i), number);
                number++;
            }
            x.crash(Steps.SEQUENCER);
            x.restart(Steps.SEQUENCER);
        }
        for (int i = 0; i < 4; i++) {
            due.is("submit", x.submit(0, Steps.SET, 0, 0, i), number);
            number++;
        }
        due.is("the 101st", x.submit(0, Steps.SET, 0, 0, 0), -1);
        due.is("the 101st elsewhere", x.submit(1, Steps.SET, 0, 0, 0), -1);
        due.is("status(99)", x.status(99), 0);
        due.is("status(95)", x.status(95), 3);
        due.is("status(100)", x.status(100), -1);
    }
}
