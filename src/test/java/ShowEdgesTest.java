import java.util.function.ToIntFunction;

/** The edges of promises 14 to 21: the calls that show the state, which change nothing whatever they are asked. */
public final class ShowEdgesTest {
    private static final Due due = new Due("ShowEdgesTest");
    private static final Twins twins = new Twins(due);
    private static final int MIN = Integer.MIN_VALUE;
    private static final int MAX = Integer.MAX_VALUE;
    private static final int[] NOT_0_OR_1 = {MIN, -1, 2, 3, MAX};
    private static final int[] NO_KEYS = {MIN, -1, 12, 13, 32, MAX};

    public static void main(String[] args) {
        valueOfNoReplicaOrKey();
        valueOfAReplicaThatIsDown();
        statusOfNoTransaction();
        statusOfEachKind();
        statusOfTheLastTransaction();
        loggedOfNoReplica();
        loggedOfNoPlace();
        loggedOfAReplicaThatIsDown();
        loggedUpToTheFirstUnknownSlot();
        loggedOfSlotsWithoutTransactions();
        loggedOfAllFortySlots();
        countsOfNoReplicaOrPartition();
        countsOfAReplicaThatIsDown();
        countsWithACheckpoint();
        locksOfNoReplicaOrKey();
        locksOfAReplicaThatIsDown();
        locksFromNoneToTen();
        storedOfNoLogNodeSequencerOrSlot();
        storedOfNothing();
        storedOfTheLastSlot();
        storedOfALogNodeThatIsDown();
        due.end();
    }

    private static void busy(String name, ToIntFunction<Counted> call, int answer) {
        twins.answers(name, Scenes::busy, call, answer);
    }

    // value: "0 when there is no such replica or key"
    private static void valueOfNoReplicaOrKey() {
        for (int r : NOT_0_OR_1) {
            busy("value(" + r + ", 0)", x -> x.value(r, 0), 0);
        }
        for (int k : NO_KEYS) {
            busy("value(0, " + k + ")", x -> x.value(0, k), 0);
            busy("value(1, " + k + ")", x -> x.value(1, k), 0);
        }
        busy("value(0, 0)", x -> x.value(0, 0), 105);
        busy("value(0, 11)", x -> x.value(0, 11), 100);
        busy("value(1, 0)", x -> x.value(1, 0), 100);
        busy("value(1, 11)", x -> x.value(1, 11), 100);
    }

    // "or the replica is down"
    private static void valueOfAReplicaThatIsDown() {
        for (int r = 0; r < 2; r++) {
            int down = r;
            for (int k = 0; k < 12; k += 11) {
                int key = k;
                twins.answers("value of " + r + " that is down", () -> replicaDown(down), x -> x.value(down, key), 0);
            }
            Counted x = replicaDown(r);
            due.is("value of the other", x.value(1 - r, 11), 100);
            x.restart(Steps.REPLICA + r);
            due.is("value when it is up again", x.value(r, 11), 100);
        }
    }

    private static Counted replicaDown(int r) {
        Counted x = Scenes.busy();
        x.crash(Steps.REPLICA + r);
        return x;
    }

    // status: "NONE when there is none": there are ten in the busy store
    private static void statusOfNoTransaction() {
        int[] none = {MIN, -1, 10, 11, 99, 100, MAX};
        for (int t : none) {
            busy("status(" + t + ")", x -> x.status(t), -1);
        }
        busy("status(0)", x -> x.status(0), 2);
        busy("status(9)", x -> x.status(9), 0);
        twins.none("status(0) of a new object", Scenes::fresh, x -> x.status(0));
    }

    // "0 in an open batch; 1 in a slot that is not decided; 2 .. decided as original; 3 .. as empty, or when .."
    private static void statusOfEachKind() {
        Counted x = new Counted(2);
        x.submit(0, Steps.ADD, 0, 0, 1);
        due.is("in an open batch", x.status(0), 0);
        x.close(0);
        due.is("in a slot", x.status(0), 1);
        Steps.deliver(x, 4);
        due.is("acknowledged by one", x.status(0), 1);
        x.deliver(0);
        due.is("decided as original", x.status(0), 2);
        x.submit(0, Steps.ADD, 0, 0, 1);
        x.close(0);
        x.submit(0, Steps.ADD, 0, 0, 1);
        Steps.dropAll(x);
        x.crash(Steps.SEQUENCER);
        due.is("decided, when its sequencer is down", x.status(0), 2);
        due.is("in a slot, when its sequencer is down", x.status(1), 1);
        due.is("in the open batch of one that crashed", x.status(2), 3);
        x.restart(Steps.SEQUENCER);
        due.is("proposed as empty", x.status(1), 1);
        Steps.deliverAll(x);
        due.is("decided as empty", x.status(1), 3);
        due.is("lost still", x.status(2), 3);
        x.submit(0, Steps.ADD, 0, 0, 1);
        due.is("in the batch after the crash", x.status(3), 0);
        x.crash(0);
        x.crash(5);
        x.crash(4);
        due.is("when others have crashed", x.status(3), 0);
    }

    private static void statusOfTheLastTransaction() {
        Counted x = Scenes.transactions(100);
        due.is("status(95)", x.status(95), 3);
        due.is("status(96)", x.status(96), 0);
        due.is("status(99)", x.status(99), 0);
        due.is("status(100)", x.status(100), -1);
    }

    // logged: "NONE when there is none"
    private static void loggedOfNoReplica() {
        for (int r : NOT_0_OR_1) {
            busy("logged(" + r + ", 0)", x -> x.logged(r, 0), -1);
        }
        busy("logged(0, 0)", x -> x.logged(0, 0), 0);
        busy("logged(1, 0)", x -> x.logged(1, 0), 0);
    }

    private static void loggedOfNoPlace() {
        int[] none = {MIN, -1, 5, 6, 99, 100, MAX};
        for (int i : none) {
            busy("logged(0, " + i + ")", x -> x.logged(0, i), -1);
            busy("logged(1, " + i + ")", x -> x.logged(1, i), -1);
        }
        busy("logged(0, 4)", x -> x.logged(0, 4), 4);
        twins.none("logged(0, 0) of a new object", Scenes::fresh, x -> x.logged(0, 0));
    }

    // "(up or down)"
    private static void loggedOfAReplicaThatIsDown() {
        for (int r = 0; r < 2; r++) {
            int down = r;
            twins.answers("logged of one that is down", () -> replicaDown(down), x -> x.logged(down, 4), 4);
            twins.answers("logged behind its last", () -> replicaDown(down), x -> x.logged(down, 5), -1);
        }
    }

    // "the slots (0, 0), (0, 1), (1, 0), (1, 1), .., as decided, up to the first slot that it does not know"
    private static void loggedUpToTheFirstUnknownSlot() {
        for (int unknown = 0; unknown <= 4; unknown++) {
            Counted x = new Counted(2);
            for (int place = 0; place < 4; place++) {
                x.submit(place % 2, Steps.ADD, 0, 0, 1);
                if (place == unknown) {
                    x.crash(Steps.REPLICA);
                }
                Steps.closeAndDecide(x, place % 2);
                x.restart(Steps.REPLICA);
            }
            for (int i = 0; i < 5; i++) {
                due.is("logged(0, " + i + ") without slot " + unknown, x.logged(0, i), i < unknown && i < 4 ? i : -1);
                due.is("logged(1, " + i + ")", x.logged(1, i), i < 4 ? i : -1);
            }
            if (unknown < 4) {
                x.resend(unknown % 2, unknown / 2);
                Steps.deliverAll(x);
            }
            due.is("logged(0, 3) with all slots", x.logged(0, 3), 3);
            due.is("logged(0, 4) with all slots", x.logged(0, 4), -1);
        }
    }

    // "as decided": slot (0, 0) is decided as empty, (0, 1) has no transactions, (1, 0) is decided as original
    private static void loggedOfSlotsWithoutTransactions() {
        Counted x = new Counted(2);
        x.submit(0, Steps.ADD, 0, 0, 1);
        x.close(0);
        Steps.dropAll(x);
        x.crash(Steps.SEQUENCER);
        x.restart(Steps.SEQUENCER);
        Steps.deliverAll(x);
        due.is("behind a slot decided as empty", x.logged(0, 0), -1);
        x.submit(0, Steps.ADD, 0, 0, 1);
        Steps.closeAndDecide(x, 0);
        due.is("slot (0, 1) is not known", x.logged(0, 0), -1);
        Steps.closeAndDecide(x, 1);
        due.is("the first of the log", x.logged(0, 0), 1);
        due.is("none behind it", x.logged(0, 1), -1);
        due.is("it is admitted first", x.admit(1, 0), 1);
    }

    private static void loggedOfAllFortySlots() {
        Counted x = new Counted(1);
        for (int e = 0; e < 20; e++) {
            for (int s = 0; s < 2; s++) {
                x.submit(s, Steps.ADD, 0, 0, 1);
                x.close(s);
                Steps.deliver(x, 8);
            }
        }
        due.is("logged(0, 39)", x.logged(0, 39), 39);
        due.is("logged(0, 40)", x.logged(0, 40), -1);
        due.is("logged(1, 39)", x.logged(1, 39), 39);
    }

    // admitted, finished, ready: "NONE when there is no such replica or partition"
    private static void countsOfNoReplicaOrPartition() {
        for (int r : NOT_0_OR_1) {
            counts(r, 0, -1, -1, -1);
        }
        int[] none = {MIN, -1, 2, 3, 4, MAX};
        for (int p : none) {
            counts(0, p, -1, -1, -1);
            counts(1, p, -1, -1, -1);
        }
        counts(0, 0, 5, 1, 1);
        counts(0, 1, 3, 1, 2);
        counts(1, 0, 0, 0, 0);
        counts(1, 1, 2, 1, 1);
        for (int partitions = 1; partitions <= 4; partitions++) {
            Counted x = new Counted(partitions);
            for (int p = -1; p <= 4; p++) {
                int want = p >= 0 && p < partitions ? 0 : -1;
                due.is("admitted(0, " + p + ") of " + partitions, x.admitted(0, p), want);
                due.is("finished(0, " + p + ") of " + partitions, x.finished(0, p), want);
                due.is("ready(0, " + p + ") of " + partitions, x.ready(0, p), want);
            }
        }
    }

    private static void counts(int r, int p, int admitted, int finished, int ready) {
        busy("admitted(" + r + ", " + p + ")", x -> x.admitted(r, p), admitted);
        busy("finished(" + r + ", " + p + ")", x -> x.finished(r, p), finished);
        busy("ready(" + r + ", " + p + ")", x -> x.ready(r, p), ready);
    }

    // "or the replica is down"
    private static void countsOfAReplicaThatIsDown() {
        for (int r = 0; r < 2; r++) {
            int down = r;
            twins.none("admitted of one that is down", () -> replicaDown(down), x -> x.admitted(down, 0));
            twins.none("finished of one that is down", () -> replicaDown(down), x -> x.finished(down, 0));
            twins.none("ready of one that is down", () -> replicaDown(down), x -> x.ready(down, 0));
            Counted x = replicaDown(r);
            due.is("admitted of the other", x.admitted(1 - r, 1), 3 - (1 - r));
            x.restart(Steps.REPLICA + r);
            due.is("admitted when it is up again", x.admitted(r, 0), 1 - r);
            due.is("finished when it is up again", x.finished(r, 0), 1 - r);
            due.is("ready when it is up again", x.ready(r, 0), 0);
        }
    }

    // "with those that the checkpoint held when the replica last came up"
    private static void countsWithACheckpoint() {
        Counted x = Scenes.unfinished(3);
        Steps.admit(x, 0, 1, 3);
        for (int i = 0; i < 3; i++) {
            x.look(0, 0, 0);
        }
        x.checkpoint(0);
        due.is("admitted after the checkpoint", x.admitted(0, 0), 3);
        due.is("finished after the checkpoint", x.finished(0, 0), 3);
        x.admit(0, 0);
        due.is("admitted behind the checkpoint", x.admitted(0, 0), 4);
        due.is("finished behind the checkpoint", x.finished(0, 0), 3);
        x.crash(Steps.REPLICA);
        x.restart(Steps.REPLICA);
        for (int p = 0; p < 2; p++) {
            due.is("admitted after the restart", x.admitted(0, p), 3);
            due.is("finished after the restart", x.finished(0, p), 3);
        }
        due.is("the next", x.admit(0, 0), 3);
        due.is("admitted behind the restart", x.admitted(0, 0), 4);
        due.is("finished behind the restart", x.finished(0, 0), 3);
    }

    // locks: "NONE when there is no such replica or key"
    private static void locksOfNoReplicaOrKey() {
        for (int r : NOT_0_OR_1) {
            busy("locks(" + r + ", 0)", x -> x.locks(r, 0), -1);
        }
        for (int k : NO_KEYS) {
            busy("locks(0, " + k + ")", x -> x.locks(0, k), -1);
            busy("locks(1, " + k + ")", x -> x.locks(1, k), -1);
        }
        busy("locks(0, 0)", x -> x.locks(0, 0), 2);
        busy("locks(0, 11)", x -> x.locks(0, 11), 0);
        busy("locks(1, 1)", x -> x.locks(1, 1), 1);
        busy("locks(1, 11)", x -> x.locks(1, 11), 0);
    }

    // "or the replica is down"
    private static void locksOfAReplicaThatIsDown() {
        for (int r = 0; r < 2; r++) {
            int down = r;
            twins.none("locks of one that is down", () -> replicaDown(down), x -> x.locks(down, 1));
            Counted x = replicaDown(r);
            due.is("locks of the other", x.locks(1 - r, 1), 1);
            x.restart(Steps.REPLICA + r);
            due.is("locks when it is up again", x.locks(r, 1), 0);
        }
    }

    private static void locksFromNoneToTen() {
        for (int count = 0; count <= 10; count++) {
            Counted x = Scenes.unfinished(count);
            due.is("locks(0, 0) of " + count, x.locks(0, 0), count);
            due.is("locks(0, 2) of " + count, x.locks(0, 2), 0);
            due.is("ready(0, 0) of " + count, x.ready(0, 0), count == 0 ? 0 : 1);
        }
    }

    // stored: "NONE when there is no such log node, sequencer or slot"
    private static void storedOfNoLogNodeSequencerOrSlot() {
        int[] noNodes = {MIN, -1, 3, 4, MAX};
        for (int l : noNodes) {
            busy("stored(" + l + ", 0, 0)", x -> x.stored(l, 0, 0), -1);
        }
        for (int s : NOT_0_OR_1) {
            busy("stored(0, " + s + ", 0)", x -> x.stored(0, s, 0), -1);
        }
        int[] noSlots = {MIN, -1, 2, 3, 19, 20, 40, MAX};
        for (int e : noSlots) {
            busy("stored(0, 0, " + e + ")", x -> x.stored(0, 0, e), -1);
            busy("stored(2, 1, " + e + ")", x -> x.stored(2, 1, e), -1);
        }
        busy("stored(0, 0, 0)", x -> x.stored(0, 0, 0), 2);
        busy("stored(2, 0, 0)", x -> x.stored(2, 0, 0), 2);
        busy("stored(0, 1, 1)", x -> x.stored(0, 1, 1), 4);
    }

    // "0 when nothing"
    private static void storedOfNothing() {
        busy("stored(1, 0, 1)", x -> x.stored(1, 0, 1), 0);
        busy("stored(2, 1, 1)", x -> x.stored(2, 1, 1), 0);
        Counted x = Scenes.fresh();
        due.is("before the slot is there", x.stored(0, 0, 0), -1);
        x.close(0);
        due.is("with its STORE under way", x.stored(0, 0, 0), 0);
        x.deliver(0);
        due.is("with its STORE arrived", x.stored(0, 0, 0), 2);
        due.is("the slot of the other sequencer is not there", x.stored(0, 1, 0), -1);
    }

    private static void storedOfTheLastSlot() {
        Counted x = Scenes.decidedSlots(20);
        due.is("stored(0, 0, 19)", x.stored(0, 0, 19), 2);
        due.is("stored(2, 0, 19)", x.stored(2, 0, 19), 2);
        due.is("stored(0, 0, 20)", x.stored(0, 0, 20), -1);
        due.is("stored(0, 1, 19)", x.stored(0, 1, 19), -1);
    }

    // Not said to be refused when the log node or the sequencer is down
    private static void storedOfALogNodeThatIsDown() {
        twins.answers("stored of one that is down", Scenes::allDown, x -> x.stored(0, 1, 1), 4);
        twins.answers("stored of one that is down", Scenes::allDown, x -> x.stored(2, 0, 1), 0);
        twins.answers("stored of one that is down", Scenes::allDown, x -> x.stored(2, 0, 2), -1);
    }
}
