/** Promises 9 and 10: crash and restart. */
public final class NodesTest {
    private static final Due due = new Due("NodesTest");

    public static void main(String[] args) {
        everyNodeGoesDownAndComesUp();
        nodesThatAreNotThere();
        sequencerNeedsTwoLogNodes();
        sequencerIsRefusedWhenCrowded();
        otherNodesComeUpWhenCrowded();
        sequencerProposesWhatIsStored();
        sequencerBelievesTheGreatestIncarnation();
        sequencerDoesNotSeeNodesThatAreDown();
        sequencerSendsInOrderOfEpochs();
        batchIsEmptyAfterARestart();
        replicaLosesItsValuesUnderWay();
        messagesThatStayKeepTheirIncarnation();
        replicaBeginsFromItsFirstCheckpoint();
        replicaBeginsFromItsCheckpoint();
        valuesReceivedAreGone();
        due.end();
    }

    private static void everyNodeGoesDownAndComesUp() {
        Counted x = new Counted(2);
        for (int node = 0; node <= 6; node++) {
            due.is("restart of " + node + " that is up", x.restart(node), false);
            due.is("crash of " + node, x.crash(node), true);
            due.is("crash of " + node + " again", x.crash(node), false);
            due.is("restart of " + node, x.restart(node), true);
            due.is("restart of " + node + " again", x.restart(node), false);
        }
    }

    private static void nodesThatAreNotThere() {
        Counted x = new Counted(2);
        int[] none = {Integer.MIN_VALUE, -1, 7, 8, Integer.MAX_VALUE};
        for (int node : none) {
            due.is("crash(" + node + ")", x.crash(node), false);
            due.is("restart(" + node + ")", x.restart(node), false);
        }
    }

    private static void sequencerNeedsTwoLogNodes() {
        Counted x = new Counted(2);
        x.crash(4);
        x.crash(0);
        x.crash(1);
        due.is("one log node", x.restart(4), false);
        due.is("it is still down", x.close(1), -1);
        x.crash(2);
        due.is("no log node", x.restart(4), false);
        due.is("a replica needs none", x.crash(5) && x.restart(5), true);
        x.restart(2);
        x.restart(0);
        due.is("two log nodes", x.restart(4), true);
        x.close(1);
        x.deliver(0);
        due.is("refused restarts are no incarnations", x.stored(0, 1, 0), 4);
    }

    private static void sequencerIsRefusedWhenCrowded() {
        Counted x = new Counted(2);
        x.crash(4);
        Steps.crowd(x, 0);
        due.is("messages()", x.messages(), 51);
        Steps.drop(x, 2);
        due.is("49 are under way, though it would send nothing", x.restart(4), false);
        due.is("it is still down", x.submit(1, Steps.SET, 0, 0, 1), -1);
        x.drop(0);
        due.is("48 are under way", x.restart(4), true);
    }

    private static void otherNodesComeUpWhenCrowded() {
        Counted x = new Counted(2);
        x.crash(2);
        x.crash(6);
        Steps.crowd(x, 0);
        due.is("a log node", x.restart(2), true);
        due.is("a replica", x.restart(6), true);
        due.is("crash of a log node", x.crash(0), true);
        due.is("crash of a sequencer", x.crash(3), true);
        due.is("messages()", x.messages(), 51);
    }

    private static void sequencerProposesWhatIsStored() {
        Counted x = new Counted(2);
        x.submit(0, Steps.SET, 0, 0, 1);
        x.close(0);
        x.close(0);
        x.deliver(2);
        x.crash(Steps.SEQUENCER);
        Steps.dropAll(x);
        x.restart(Steps.SEQUENCER);
        due.is("messages()", x.messages(), 6);
        due.is("stored on one: original", x.message(0), 1000000);
        due.is("on none: empty", x.message(3), 1001001);
        due.is("on none: empty", x.message(5), 1001021);
    }

    private static void sequencerBelievesTheGreatestIncarnation() {
        Counted x = new Counted(2);
        x.submit(0, Steps.SET, 0, 0, 1);
        x.close(0);
        x.deliver(0);
        Steps.dropAll(x);
        x.crash(0);
        x.crash(Steps.SEQUENCER);
        x.restart(Steps.SEQUENCER);
        due.is("node 0 is not asked", x.message(1), 1000011);
        x.deliver(1);
        Steps.dropAll(x);
        due.is("empty on node 1, incarnation 2", x.stored(1, 0, 0), 5);
        x.restart(0);
        x.crash(Steps.SEQUENCER);
        x.restart(Steps.SEQUENCER);
        due.is("empty has the greater incarnation", x.message(0), 1000001);
        Steps.dropAll(x);
        x.crash(1);
        x.crash(Steps.SEQUENCER);
        x.restart(Steps.SEQUENCER);
        due.is("only node 0 tells", x.message(0), 1000000);
        x.deliver(2);
        Steps.dropAll(x);
        due.is("original on node 2, incarnation 4", x.stored(2, 0, 0), 8);
        x.restart(1);
        x.crash(Steps.SEQUENCER);
        x.restart(Steps.SEQUENCER);
        due.is("original has the greater incarnation", x.message(0), 1000000);
    }

    private static void sequencerDoesNotSeeNodesThatAreDown() {
        Counted x = new Counted(2);
        x.submit(1, Steps.SET, 0, 0, 1);
        x.close(1);
        x.deliver(0);
        Steps.dropAll(x);
        x.crash(4);
        x.crash(0);
        x.restart(4);
        due.is("to node 0 that is down", x.message(0), 1100001);
        Steps.deliverAll(x);
        due.is("status(0)", x.status(0), 3);
        due.is("node 0 keeps what it has", x.stored(0, 1, 0), 2);
    }

    private static void sequencerSendsInOrderOfEpochs() {
        Counted x = new Counted(2);
        x.close(0);
        x.close(0);
        x.close(0);
        // Slot 1 is decided, the others are not.
        x.deliver(3);
        x.deliver(3);
        x.deliver(7);
        x.deliver(7);
        x.crash(Steps.SEQUENCER);
        Steps.dropAll(x);
        x.restart(Steps.SEQUENCER);
        int[] codes = {1000001, 1000011, 1000021, 1002001, 1002011, 1002021};
        due.is("messages()", x.messages(), codes.length);
        for (int i = 0; i < codes.length; i++) {
            due.is("message(" + i + ")", x.message(i), codes[i]);
        }
    }

    private static void batchIsEmptyAfterARestart() {
        Counted x = new Counted(1);
        x.submit(0, Steps.SET, 0, 0, 1);
        x.crash(Steps.SEQUENCER);
        x.restart(Steps.SEQUENCER);
        x.submit(0, Steps.SET, 0, 0, 2);
        Steps.closeAndDecide(x, 0);
        due.is("logged(0, 0)", x.logged(0, 0), 1);
        due.is("logged(0, 1)", x.logged(0, 1), -1);
        for (int i = 0; i < 6; i++) {
            due.is("submit", x.submit(0, Steps.SET, 0, 0, i), 2 + i);
        }
    }

    private static void replicaLosesItsValuesUnderWay() {
        Counted x = new Counted(2);
        x.submit(0, Steps.MOVE, 0, 1, 1);
        Steps.closeAndDecide(x, 0);
        x.admit(0, 0);
        x.admit(1, 0);
        x.resend(0, 0);
        x.look(0, 0, 0);
        x.look(1, 0, 0);
        x.close(1);
        due.is("messages()", x.messages(), 7);
        x.crash(Steps.REPLICA);
        due.is("messages()", x.messages(), 6);
        due.is("CLOSED stays", x.message(0), 3000000);
        due.is("CLOSED stays", x.message(1), 3000010);
        due.is("VALUES of the other replica stay", x.message(2), 4100001);
        due.is("STORE stays", x.message(3), 1100000);
        due.is("STORE stays", x.message(5), 1100020);
    }

    private static void messagesThatStayKeepTheirIncarnation() {
        Counted x = new Counted(2);
        x.submit(0, Steps.MOVE, 0, 1, 1);
        Steps.closeAndDecide(x, 0);
        x.crash(4);
        x.restart(4);
        x.admit(0, 0);
        x.close(0);
        x.look(0, 0, 0);
        x.close(1);
        x.crash(Steps.REPLICA);
        Steps.deliver(x, 6);
        due.is("stored(0, 0, 1)", x.stored(0, 0, 1), 2);
        due.is("stored(0, 1, 0)", x.stored(0, 1, 0), 4);
        due.is("stored(2, 1, 0)", x.stored(2, 1, 0), 4);
    }

    private static void replicaBeginsFromItsFirstCheckpoint() {
        Counted x = new Counted(1);
        x.submit(0, Steps.SET, 0, 0, 7);
        Steps.closeAndDecide(x, 0);
        x.admit(1, 0);
        x.look(1, 0, 0);
        due.is("value(1, 0)", x.value(1, 0), 7);
        x.crash(Steps.REPLICA + 1);
        x.restart(Steps.REPLICA + 1);
        for (int k = 0; k < 12; k++) {
            due.is("value(1, " + k + ")", x.value(1, k), 100);
        }
        due.is("admitted(1, 0)", x.admitted(1, 0), 0);
        due.is("admit(1, 0)", x.admit(1, 0), 0);
    }

    private static void replicaBeginsFromItsCheckpoint() {
        Counted x = new Counted(2);
        x.submit(0, Steps.SET, 0, 0, 7);
        x.submit(0, Steps.SET, 2, 0, 8);
        Steps.closeAndDecide(x, 0);
        Steps.admitInAll(x, 0, 2, 1);
        x.look(0, 0, 0);
        due.is("checkpoint(0)", x.checkpoint(0), 1);
        Steps.admitInAll(x, 0, 2, 1);
        x.look(0, 0, 0);
        due.is("value(0, 2)", x.value(0, 2), 8);
        x.crash(Steps.REPLICA);
        due.is("value of a replica that is down", x.value(0, 2), 0);
        x.restart(Steps.REPLICA);
        due.is("value(0, 0)", x.value(0, 0), 7);
        due.is("value(0, 2)", x.value(0, 2), 100);
        due.is("admitted(0, 0)", x.admitted(0, 0), 1);
        due.is("finished(0, 0)", x.finished(0, 0), 1);
        due.is("it goes on behind the checkpoint", x.admit(0, 0), 1);
        due.is("logged(0, 1)", x.logged(0, 1), 1);
    }

    private static void valuesReceivedAreGone() {
        Counted x = new Counted(2);
        x.submit(0, Steps.MOVE, 0, 1, 1);
        Steps.closeAndDecide(x, 0);
        x.admit(0, 0);
        x.look(0, 0, 0);
        Steps.deliverAll(x);
        x.crash(Steps.REPLICA);
        x.restart(Steps.REPLICA);
        due.is("locks are gone", x.locks(0, 0), 0);
        due.is("admit(0, 1)", x.admit(0, 1), 0);
        due.is("look(0, 1, 0)", x.look(0, 1, 0), 0);
        due.is("it waits for the values", x.finished(0, 1), 0);
        due.is("locks(0, 1)", x.locks(0, 1), 1);
    }
}
