/** Promise 1. */
public final class NewObjectTest {
    private static final Due due = new Due("NewObjectTest");

    public static void main(String[] args) {
        due.is("NONE", SequencedBatches.NONE, -1);
        numberOfPartitionsIsKeptWithinItsBounds();
        numbersOutsideTheBoundsAreAsTheBounds();
        everythingIsUp();
        nothingIsThere();
        everyValueIsAHundred();
        objectsShareNothing();
        due.end();
    }

    private static void numberOfPartitionsIsKeptWithinItsBounds() {
        int[] asked = {Integer.MIN_VALUE, -1, 0, 1, 2, 3, 4, 5, Integer.MAX_VALUE};
        int[] made = {1, 1, 1, 1, 2, 3, 4, 4, 4};
        for (int i = 0; i < asked.length; i++) {
            Counted x = new Counted(asked[i]);
            for (int p = -1; p <= 5; p++) {
                int want = p >= 0 && p < made[i] ? 0 : -1;
                due.is("admitted(0, " + p + ") of " + asked[i], x.admitted(0, p), want);
                due.is("finished(0, " + p + ") of " + asked[i], x.finished(0, p), want);
                due.is("ready(1, " + p + ") of " + asked[i], x.ready(1, p), want);
            }
        }
    }

    // "(1 if it is less than 1, 4 if it is more than 4)": keys belong to partitions as if that had been asked
    private static void numbersOutsideTheBoundsAreAsTheBounds() {
        int[] asked = {Integer.MIN_VALUE, -1, 0, 1, 4, 5, 6, Integer.MAX_VALUE};
        int[] partitionOfKey5 = {0, 0, 0, 0, 1, 1, 1, 1};
        for (int i = 0; i < asked.length; i++) {
            Counted x = new Counted(asked[i]);
            x.submit(0, Steps.ADD, 5, 0, 1);
            Steps.closeAndDecide(x, 0);
            Steps.admitInAll(x, 0, 4, 1);
            due.is("the partition of key 5 of " + asked[i], x.look(0, partitionOfKey5[i], 0), 0);
            due.is("value(0, 5) of " + asked[i], x.value(0, 5), 101);
            due.is("partition 1 of " + asked[i], x.admitted(0, 1), partitionOfKey5[i] == 0 ? -1 : 1);
            due.is("partition 3 of " + asked[i], x.admitted(0, 3), partitionOfKey5[i] == 0 ? -1 : 1);
            due.is("partition 4 of " + asked[i], x.admitted(0, 4), -1);
        }
    }

    private static void everythingIsUp() {
        Counted x = new Counted(2);
        for (int node = 0; node <= 6; node++) {
            due.is("restart(" + node + ")", x.restart(node), false);
        }
        for (int node = 0; node <= 6; node++) {
            due.is("crash(" + node + ")", x.crash(node), true);
        }
    }

    private static void nothingIsThere() {
        Counted x = new Counted(3);
        due.is("messages()", x.messages(), 0);
        due.is("message(0)", x.message(0), -1);
        due.is("status(0)", x.status(0), -1);
        due.is("stored(0, 0, 0)", x.stored(0, 0, 0), -1);
        due.is("stored(2, 1, 0)", x.stored(2, 1, 0), -1);
        due.is("resend(0, 0)", x.resend(0, 0), -1);
        for (int r = 0; r < 2; r++) {
            due.is("logged", x.logged(r, 0), -1);
            due.is("finished", x.finished(r, 2), 0);
            due.is("checkpoint", x.checkpoint(r), 0);
        }
    }

    private static void everyValueIsAHundred() {
        Counted x = new Counted(3);
        for (int k = 0; k < 12; k++) {
            due.is("value(0, " + k + ")", x.value(0, k), 100);
            due.is("value(1, " + k + ")", x.value(1, k), 100);
            due.is("locks(0, " + k + ")", x.locks(0, k), 0);
        }
    }

    private static void objectsShareNothing() {
        Counted x = new Counted(1);
        Counted y = new Counted(1);
        x.submit(0, Steps.SET, 0, 0, 5);
        x.close(0);
        x.crash(0);
        due.is("messages() of the other", y.messages(), 0);
        due.is("status(0) of the other", y.status(0), -1);
        due.is("crash(0) of the other", y.crash(0), true);
    }
}
