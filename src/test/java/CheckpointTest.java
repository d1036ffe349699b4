/** Promise 13. */
public final class CheckpointTest {
    private static final Due due = new Due("CheckpointTest");

    public static void main(String[] args) {
        checkpointOfNoSuchReplica();
        partitionsMustHaveAdmittedAlike();
        allMustBeFinishedEverywhere();
        refusedCheckpointKeepsTheOldOne();
        checkpointStaysWhenValuesGoOn();
        replicasHaveTheirOwn();
        due.end();
    }

    private static void checkpointOfNoSuchReplica() {
        Counted x = new Counted(2);
        due.is("checkpoint(-1)", x.checkpoint(-1), -1);
        due.is("checkpoint(2)", x.checkpoint(2), -1);
        due.is("checkpoint(MAX)", x.checkpoint(Integer.MAX_VALUE), -1);
        due.is("checkpoint(0)", x.checkpoint(0), 0);
        x.crash(Steps.REPLICA);
        due.is("down", x.checkpoint(0), -1);
        due.is("the other", x.checkpoint(1), 0);
    }

    private static void partitionsMustHaveAdmittedAlike() {
        Counted x = new Counted(3);
        x.submit(0, Steps.SET, 0, 0, 1);
        x.submit(0, Steps.SET, 1, 0, 2);
        Steps.closeAndDecide(x, 0);
        x.admit(0, 0);
        x.look(0, 0, 0);
        due.is("only partition 0", x.checkpoint(0), -1);
        x.admit(0, 1);
        due.is("two of three", x.checkpoint(0), -1);
        x.admit(0, 2);
        due.is("all, though the log has more", x.checkpoint(0), 1);
        x.admit(0, 2);
        due.is("one is ahead", x.checkpoint(0), -1);
    }

    private static void allMustBeFinishedEverywhere() {
        Counted x = new Counted(2);
        x.submit(0, Steps.MOVE, 0, 1, 5);
        Steps.closeAndDecide(x, 0);
        Steps.admitInAll(x, 0, 2, 1);
        due.is("none has looked", x.checkpoint(0), -1);
        x.look(0, 0, 0);
        x.look(0, 1, 0);
        due.is("none has finished", x.checkpoint(0), -1);
        x.deliver(0);
        due.is("partition 0 has not finished", x.checkpoint(0), -1);
        x.deliver(0);
        due.is("all finished", x.checkpoint(0), 1);
        due.is("again", x.checkpoint(0), 1);
    }

    private static void refusedCheckpointKeepsTheOldOne() {
        Counted x = new Counted(1);
        x.submit(0, Steps.ADD, 0, 0, 1);
        x.submit(0, Steps.ADD, 0, 0, 2);
        x.submit(0, Steps.ADD, 1, 0, 4);
        Steps.closeAndDecide(x, 0);
        x.admit(0, 0);
        x.look(0, 0, 0);
        due.is("checkpoint(0)", x.checkpoint(0), 1);
        Steps.admit(x, 0, 0, 2);
        x.look(0, 0, 0);
        due.is("one is not finished", x.checkpoint(0), -1);
        x.crash(Steps.REPLICA);
        x.restart(Steps.REPLICA);
        due.is("admitted(0, 0)", x.admitted(0, 0), 1);
        due.is("value(0, 0)", x.value(0, 0), 101);
        due.is("value(0, 1)", x.value(0, 1), 100);
    }

    private static void checkpointStaysWhenValuesGoOn() {
        Counted x = new Counted(1);
        x.submit(0, Steps.ADD, 0, 0, 1);
        x.submit(0, Steps.ADD, 0, 0, 2);
        Steps.closeAndDecide(x, 0);
        x.admit(0, 0);
        x.look(0, 0, 0);
        x.checkpoint(0);
        x.admit(0, 0);
        x.look(0, 0, 0);
        due.is("value(0, 0)", x.value(0, 0), 103);
        due.is("a checkpoint changes no counts", x.admitted(0, 0), 2);
        x.crash(Steps.REPLICA);
        x.restart(Steps.REPLICA);
        due.is("value(0, 0)", x.value(0, 0), 101);
        due.is("admit(0, 0)", x.admit(0, 0), 1);
        x.look(0, 0, 0);
        due.is("checkpoint(0)", x.checkpoint(0), 2);
        x.crash(Steps.REPLICA);
        x.restart(Steps.REPLICA);
        due.is("value(0, 0)", x.value(0, 0), 103);
        due.is("admitted(0, 0)", x.admitted(0, 0), 2);
        due.is("admit(0, 0)", x.admit(0, 0), -1);
    }

    private static void replicasHaveTheirOwn() {
        Counted x = new Counted(1);
        x.submit(0, Steps.SET, 4, 0, 1);
        Steps.closeAndDecide(x, 0);
        x.admit(1, 0);
        x.look(1, 0, 0);
        due.is("checkpoint(1)", x.checkpoint(1), 1);
        due.is("checkpoint(0)", x.checkpoint(0), 0);
        x.crash(Steps.REPLICA);
        x.restart(Steps.REPLICA);
        due.is("value(0, 4)", x.value(0, 4), 100);
        due.is("value(1, 4)", x.value(1, 4), 1);
    }
}
