/** Promise 1. */
public final class NewObjectTest {
    private static final Due due = new Due("NewObjectTest");

    public static void main(String[] args) {
        due.is("NONE", SequencedBatches.NONE, -1);
        numberOfPartitionsIsKeptWithinItsBounds();
        everythingIsUp();
        nothingIsThere();
        everyValueIsAHundred();
        objectsShareNothing();
        due.end();
    }

    private static void numberOfPartitionsIsKeptWithinItsBounds() {
        int[] asked = {Integer.MIN_VALUE, -1, 0, 1, 2, 3, 4, 5, Integer.MAX_VALUE};
        int[] made = {1, 1, 1, 1, 2, 3, 4, 4, 4};
        for (int i = 0; i < asked.length; i++) {
            SequencedBatches x = new SequencedBatches(asked[i]);
            for (int p = -1; p <= 5; p++) {
                int want = p >= 0 && p < made[i] ? 0 : -1;
                due.is("admitted(0, " + p + ") of " + asked[i], x.admitted(0, p), want);
                due.is("ready(1, " + p + ") of " + asked[i], x.ready(1, p), want);
            }
        }
    }

    private static void everythingIsUp() {
        SequencedBatches x = new SequencedBatches(2);
        for (int node = 0; node <= 6; node++) {
            due.is("restart(" + node + ")", x.restart(node), false);
        }
        for (int node = 0; node <= 6; node++) {
            due.is("crash(" + node + ")", x.crash(node), true);
        }
    }

    private static void nothingIsThere() {
        SequencedBatches x = new SequencedBatches(3);
        due.is("messages()", x.messages(), 0);
        due.is("message(0)", x.message(0), -1);
        due.is("status(0)", x.status(0), -1);
        due.is("stored(0, 0, 0)", x.stored(0, 0, 0), -1);
        due.is("stored(2, 1, 0)", x.stored(2, 1, 0), -1);
        due.is("resend(0, 0)", x.resend(0, 0), -1);
        for (int r = 0; r < 2; r++) {
            due.is("logged", x.logged(r, 0), -1);
            due.is("finished", x.finished(r, 2), 0);
            due.is("checkpoint", x.checkpoint(r), 0);
        }
    }

    private static void everyValueIsAHundred() {
        SequencedBatches x = new SequencedBatches(3);
        for (int k = 0; k < 12; k++) {
            due.is("value(0, " + k + ")", x.value(0, k), 100);
            due.is("value(1, " + k + ")", x.value(1, k), 100);
            due.is("locks(0, " + k + ")", x.locks(0, k), 0);
        }
    }

    private static void objectsShareNothing() {
        SequencedBatches x = new SequencedBatches(1);
        SequencedBatches y = new SequencedBatches(1);
        x.submit(0, Steps.SET, 0, 0, 5);
        x.close(0);
        x.crash(0);
        due.is("messages() of the other", y.messages(), 0);
        due.is("status(0) of the other", y.status(0), -1);
        due.is("crash(0) of the other", y.crash(0), true);
    }
}
