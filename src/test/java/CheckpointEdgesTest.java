/** The edges of promise 13. */
public final class CheckpointEdgesTest {
    private static final Due due = new Due("CheckpointEdgesTest");
    private static final Twins twins = new Twins(due);

    public static void main(String[] args) {
        checkpointOfNoReplica();
        checkpointOfAReplicaThatIsDown();
        checkpointOfNothing();
        partitionsMustHaveAdmittedTheSameNumber();
        everyOneMustBeFinishedInEveryPartition();
        oneThatWaitsForValuesIsNotFinished();
        refusedCheckpointKeepsTheOlder();
        checkpointHoldsAllThatWereAdmitted();
        checkpointIsKeptOverMoreThanOneCrash();
        due.end();
    }

    // "Refused with NONE when there is no such replica"
    private static void checkpointOfNoReplica() {
        int[] none = {Integer.MIN_VALUE, -1, 2, 3, Integer.MAX_VALUE};
        for (int r : none) {
            twins.none("checkpoint(" + r + ")", () -> executed(1, 1), x -> x.checkpoint(r));
        }
        due.is("checkpoint(0)", executed(1, 1).checkpoint(0), 1);
        due.is("checkpoint(1)", executed(1, 1).checkpoint(1), 0);
    }

    /** In replica 0 so many of three MOVEs are finished in both partitions; so many are admitted. */
    private static Counted executed(int finished, int admitted) {
        Counted x = new Counted(2);
        for (int i = 0; i < 3; i++) {
            x.submit(0, Steps.MOVE, 0, 1, 5);
        }
        Steps.closeAndDecide(x, 0);
        for (int i = 0; i < finished; i++) {
            Steps.admitInAll(x, 0, 2, 1);
            x.look(0, 0, 0);
            x.look(0, 1, 0);
            Steps.deliverAll(x);
        }
        Steps.admitInAll(x, 0, 2, admitted - finished);
        return x;
    }

    // "it is down"
    private static void checkpointOfAReplicaThatIsDown() {
        for (int r = 0; r < 2; r++) {
            int down = r;
            twins.none("checkpoint of " + r + " that is down", () -> replicaDown(down), x -> x.checkpoint(down));
            due.is("checkpoint of the other", replicaDown(r).checkpoint(1 - r), r == 0 ? 0 : 2);
        }
        Counted x = replicaDown(0);
        x.restart(Steps.REPLICA);
        due.is("checkpoint when it is up again", x.checkpoint(0), 0);
    }

    private static Counted replicaDown(int r) {
        Counted x = executed(2, 2);
        x.crash(Steps.REPLICA + r);
        return x;
    }

    private static void checkpointOfNothing() {
        for (int partitions = 1; partitions <= 4; partitions++) {
            Counted x = new Counted(partitions);
            due.is("checkpoint(0) of a new object", x.checkpoint(0), 0);
            due.is("checkpoint(1) of a new object", x.checkpoint(1), 0);
            x.crash(Steps.REPLICA);
            x.restart(Steps.REPLICA);
            due.is("value(0, 0)", x.value(0, 0), 100);
            due.is("admitted(0, 0)", x.admitted(0, 0), 0);
        }
    }

    // "its partitions have not admitted the same number": one of them ahead or behind by one
    private static void partitionsMustHaveAdmittedTheSameNumber() {
        for (int partitions = 2; partitions <= 4; partitions++) {
            int count = partitions;
            for (int p = 0; p < partitions; p++) {
                int odd = p;
                twins.none("partition " + p + " of " + count + " is ahead", () -> admittedIn(count, 1 << odd),
                        x -> x.checkpoint(1));
                int others = (1 << count) - 1 - (1 << p);
                twins.none("partition " + p + " of " + count + " is behind", () -> admittedIn(count, others),
                        x -> x.checkpoint(1));
            }
            due.is("all have admitted one", admittedIn(count, (1 << count) - 1).checkpoint(1), 1);
            due.is("none has admitted one", admittedIn(count, 0).checkpoint(1), 0);
        }
    }

    /** Those of the partitions of replica 1 that stand in the set admit a SET, and it is finished in all of them. */
    private static Counted admittedIn(int partitions, int set) {
        Counted x = new Counted(partitions);
        x.submit(0, Steps.SET, 0, 0, 7);
        Steps.closeAndDecide(x, 0);
        for (int p = 0; p < partitions; p++) {
            if ((set >> p & 1) == 1) {
                x.admit(1, p);
                x.look(1, p, 0);
            }
        }
        return x;
    }

    // "or one that was admitted is not finished in every partition": the first, the last, in either partition
    private static void everyOneMustBeFinishedInEveryPartition() {
        twins.none("none of one is finished", () -> executed(0, 1), x -> x.checkpoint(0));
        twins.none("one of two is finished", () -> executed(1, 2), x -> x.checkpoint(0));
        twins.none("one of three is finished", () -> executed(1, 3), x -> x.checkpoint(0));
        due.is("all of three are finished", executed(3, 3).checkpoint(0), 3);
        for (int partitions = 1; partitions <= 4; partitions++) {
            int count = partitions;
            for (int p = 0; p < partitions; p++) {
                int last = p;
                twins.none("not finished in " + p + " of " + count, () -> notFinishedIn(count, last),
                        x -> x.checkpoint(0));
                Counted x = notFinishedIn(count, p);
                x.look(0, p, 0);
                due.is("finished in all of " + count, x.checkpoint(0), count);
            }
        }
    }

    /** All partitions have admitted a SET for each of them; that of partition p has not looked. */
    private static Counted notFinishedIn(int partitions, int p) {
        Counted x = new Counted(partitions);
        for (int k = 0; k < partitions; k++) {
            x.submit(0, Steps.SET, k, 0, 7);
        }
        Steps.closeAndDecide(x, 0);
        Steps.admitInAll(x, 0, partitions, partitions);
        for (int q = 0; q < partitions; q++) {
            if (q != p) {
                x.look(0, q, 0);
            }
        }
        return x;
    }

    private static void oneThatWaitsForValuesIsNotFinished() {
        twins.none("both have looked", CheckpointEdgesTest::bothHaveLooked, x -> x.checkpoint(0));
        for (int i = 0; i < 2; i++) {
            Counted x = bothHaveLooked();
            x.deliver(i);
            due.is("one has the values", x.checkpoint(0), -1);
            x.deliver(0);
            due.is("both have the values", x.checkpoint(0), 1);
        }
    }

    private static Counted bothHaveLooked() {
        Counted x = executed(0, 1);
        x.look(0, 0, 0);
        x.look(0, 1, 0);
        return x;
    }

    private static void refusedCheckpointKeepsTheOlder() {
        Counted x = executed(1, 1);
        x.checkpoint(0);
        Steps.admitInAll(x, 0, 2, 1);
        due.is("one is not finished", x.checkpoint(0), -1);
        x.crash(Steps.REPLICA);
        due.is("it is down", x.checkpoint(0), -1);
        x.restart(Steps.REPLICA);
        due.is("value(0, 0)", x.value(0, 0), 95);
        due.is("value(0, 1)", x.value(0, 1), 105);
        due.is("admitted(0, 1)", x.admitted(0, 1), 1);
        due.is("checkpoint(0)", x.checkpoint(0), 1);
    }

    // "answers how many transactions it holds: all that its partitions have admitted"
    private static void checkpointHoldsAllThatWereAdmitted() {
        for (int count = 0; count <= 3; count++) {
            Counted x = executed(count, count);
            due.is("checkpoint of " + count, x.checkpoint(0), count);
            due.is("again", x.checkpoint(0), count);
            due.is("it changes no values", x.value(0, 0), 100 - 5 * count);
            due.is("nor what is admitted", x.admitted(0, 0), count);
            x.crash(Steps.REPLICA);
            x.restart(Steps.REPLICA);
            due.is("value(0, 0)", x.value(0, 0), 100 - 5 * count);
            due.is("value(0, 1)", x.value(0, 1), 100 + 5 * count);
            due.is("finished(0, 0)", x.finished(0, 0), count);
            due.is("the next", x.admit(0, 0), count == 3 ? -1 : count);
        }
    }

    private static void checkpointIsKeptOverMoreThanOneCrash() {
        Counted x = executed(2, 2);
        x.checkpoint(0);
        for (int i = 0; i < 3; i++) {
            x.crash(Steps.REPLICA);
            x.restart(Steps.REPLICA);
            due.is("value(0, 0)", x.value(0, 0), 90);
            due.is("admitted(0, 0)", x.admitted(0, 0), 2);
        }
        Steps.admitInAll(x, 0, 2, 1);
        x.look(0, 0, 0);
        x.look(0, 1, 0);
        Steps.deliverAll(x);
        due.is("value(0, 0)", x.value(0, 0), 85);
        due.is("checkpoint(0) behind the one before", x.checkpoint(0), 3);
    }
}
