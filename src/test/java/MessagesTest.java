/** Promises 5, 6, 7, 8 and 16: the list of messages, their arrival, and the log that comes of it. */
public final class MessagesTest {
    private static final Due due = new Due("MessagesTest");

    public static void main(String[] args) {
        numbersOutsideTheList();
        anyMessageMayArrive();
        storeOnANodeThatIsDown();
        storeOfAnOldIncarnation();
        restartIsPromisedByEveryNodeThatIsUp();
        storePromisesItsIncarnation();
        acksOfOneNodeCountOnce();
        acksOfAnOldIncarnation();
        ackWhenTheSequencerIsDown();
        thirdAckDoesNothing();
        closedWhenTheReplicaIsDown();
        dropLosesAnythingButValues();
        arrivalsAreNeverRefused();
        logGoesUpToTheFirstUnknownSlot();
        logLeavesEmptySlotsOut();
        logOfAllFortySlots();
        due.end();
    }

    private static void numbersOutsideTheList() {
        Counted x = new Counted(2);
        int[] outside = {Integer.MIN_VALUE, -1, 3, 4, 100, Integer.MAX_VALUE};
        x.close(0);
        for (int i : outside) {
            due.is("message(" + i + ")", x.message(i), -1);
            due.is("deliver(" + i + ")", x.deliver(i), false);
            due.is("drop(" + i + ")", x.drop(i), false);
        }
        due.is("messages()", x.messages(), 3);
        due.is("stored(0, 0, 0)", x.stored(0, 0, 0), 0);
    }

    private static void anyMessageMayArrive() {
        Counted x = new Counted(2);
        x.close(0);
        due.is("deliver(1)", x.deliver(1), true);
        due.is("messages()", x.messages(), 3);
        due.is("message(0)", x.message(0), 1000000);
        due.is("message(1)", x.message(1), 1000020);
        due.is("message(2)", x.message(2), 2000010);
        due.is("deliver(2)", x.deliver(2), true);
        due.is("messages()", x.messages(), 2);
        due.is("deliver(1)", x.deliver(1), true);
        due.is("deliver(1)", x.deliver(1), true);
        due.is("messages()", x.messages(), 3);
        due.is("message(0)", x.message(0), 1000000);
        due.is("message(1)", x.message(1), 3000000);
        due.is("message(2)", x.message(2), 3000010);
    }

    private static void storeOnANodeThatIsDown() {
        Counted x = new Counted(2);
        x.close(0);
        x.crash(0);
        due.is("deliver(0)", x.deliver(0), true);
        due.is("messages()", x.messages(), 2);
        due.is("stored(0, 0, 0)", x.stored(0, 0, 0), 0);
        x.restart(0);
        x.resend(0, 0);
        x.deliver(2);
        due.is("stored(0, 0, 0)", x.stored(0, 0, 0), 2);
    }

    private static void storeOfAnOldIncarnation() {
        Counted x = new Counted(2);
        x.close(0);
        x.crash(0);
        x.crash(Steps.SEQUENCER);
        x.restart(Steps.SEQUENCER);
        x.restart(0);
        x.deliver(1);
        due.is("node 1 has promised more", x.stored(1, 0, 0), 0);
        due.is("no ACK", x.messages(), 5);
        x.deliver(0);
        due.is("node 0 was down and has not", x.stored(0, 0, 0), 2);
        due.is("an ACK", x.message(4), 2000000);
        x.deliver(4);
        x.deliver(1);
        due.is("node 0 stores anew", x.stored(0, 0, 0), 5);
    }

    private static void restartIsPromisedByEveryNodeThatIsUp() {
        Counted x = new Counted(2);
        x.close(0);
        x.close(1);
        x.crash(Steps.SEQUENCER);
        x.restart(Steps.SEQUENCER);
        Steps.deliver(x, 6);
        for (int l = 0; l < 3; l++) {
            due.is("old STORE on node " + l, x.stored(l, 0, 0), 0);
            due.is("STORE of the other sequencer on node " + l, x.stored(l, 1, 0), 2);
        }
        due.is("messages()", x.messages(), 6);
    }

    private static void storePromisesItsIncarnation() {
        Counted x = new Counted(2);
        x.close(0);
        x.crash(2);
        x.crash(Steps.SEQUENCER);
        x.restart(Steps.SEQUENCER);
        x.restart(2);
        due.is("the new STORE to node 2", x.message(5), 1000021);
        x.deliver(5);
        due.is("it is stored", x.stored(2, 0, 0), 5);
        x.deliver(2);
        due.is("the old one comes too late", x.stored(2, 0, 0), 5);
        due.is("and is not acknowledged", x.messages(), 5);
    }

    private static void acksOfOneNodeCountOnce() {
        Counted x = new Counted(2);
        x.submit(0, Steps.SET, 0, 0, 1);
        x.close(0);
        x.resend(0, 0);
        x.deliver(0);
        x.deliver(2);
        due.is("message(4)", x.message(4), 2000000);
        due.is("message(5)", x.message(5), 2000000);
        x.deliver(4);
        x.deliver(4);
        due.is("status(0)", x.status(0), 1);
        due.is("messages()", x.messages(), 4);
    }

    private static void acksOfAnOldIncarnation() {
        Counted x = new Counted(2);
        x.submit(0, Steps.SET, 0, 0, 1);
        x.close(0);
        Steps.deliver(x, 3);
        x.deliver(0);
        x.crash(Steps.SEQUENCER);
        x.restart(Steps.SEQUENCER);
        Steps.deliver(x, 2);
        due.is("old ACKs do not count", x.status(0), 1);
        due.is("all three are asked again", x.resend(0, 0), 3);
        Steps.deliver(x, 3);
        x.deliver(3);
        due.is("nor do those from before the crash", x.status(0), 1);
        x.deliver(3);
        due.is("new ones do", x.status(0), 2);
    }

    private static void ackWhenTheSequencerIsDown() {
        Counted x = new Counted(2);
        x.submit(0, Steps.SET, 0, 0, 1);
        x.close(0);
        Steps.deliver(x, 3);
        x.crash(Steps.SEQUENCER);
        Steps.deliver(x, 3);
        due.is("status(0)", x.status(0), 1);
        due.is("messages()", x.messages(), 0);
    }

    private static void thirdAckDoesNothing() {
        Counted x = new Counted(2);
        x.close(0);
        Steps.deliver(x, 5);
        due.is("messages()", x.messages(), 3);
        due.is("message(0)", x.message(0), 2000020);
        x.deliver(0);
        due.is("no CLOSED again", x.messages(), 2);
    }

    private static void closedWhenTheReplicaIsDown() {
        Counted x = new Counted(2);
        x.submit(0, Steps.SET, 0, 0, 1);
        x.crash(Steps.REPLICA);
        Steps.closeAndDecide(x, 0);
        due.is("logged(0, 0)", x.logged(0, 0), -1);
        due.is("logged(1, 0)", x.logged(1, 0), 0);
        x.restart(Steps.REPLICA);
        due.is("logged(0, 0)", x.logged(0, 0), -1);
        x.resend(0, 0);
        x.crash(Steps.REPLICA + 1);
        Steps.deliverAll(x);
        due.is("logged(0, 0)", x.logged(0, 0), 0);
        due.is("a replica that is down keeps its log", x.logged(1, 0), 0);
    }

    private static void dropLosesAnythingButValues() {
        Counted x = new Counted(2);
        x.submit(0, Steps.MOVE, 0, 1, 1);
        x.close(0);
        due.is("a STORE", x.drop(1), true);
        due.is("message(1)", x.message(1), 1000020);
        x.deliver(0);
        due.is("an ACK", x.drop(1), true);
        x.resend(0, 0);
        Steps.deliver(x, 4);
        Steps.deliver(x, 3);
        due.is("a CLOSED", x.message(1), 3000000);
        due.is("a CLOSED", x.drop(2), true);
        Steps.deliverAll(x);
        due.is("replica 0 knows", x.logged(0, 0), 0);
        due.is("replica 1 does not", x.logged(1, 0), -1);
        x.admit(0, 0);
        x.look(0, 0, 0);
        due.is("message(0)", x.message(0), 4000001);
        due.is("a VALUES", x.drop(0), false);
        due.is("messages()", x.messages(), 1);
    }

    private static void arrivalsAreNeverRefused() {
        Counted x = new Counted(2);
        x.close(0);
        x.close(1);
        for (int i = 0; i < 15; i++) {
            x.resend(0, 0);
        }
        due.is("messages()", x.messages(), 51);
        Steps.deliver(x, 3);
        due.is("deliver(48)", x.deliver(48), true);
        due.is("deliver(48)", x.deliver(48), true);
        due.is("messages()", x.messages(), 51);
        due.is("message(49)", x.message(49), 3000000);
        due.is("message(50)", x.message(50), 3000010);
    }

    private static void logGoesUpToTheFirstUnknownSlot() {
        Counted x = new Counted(2);
        x.submit(1, Steps.SET, 0, 0, 1);
        x.submit(0, Steps.SET, 0, 0, 2);
        x.submit(0, Steps.SET, 0, 0, 3);
        Steps.closeAndDecide(x, 1);
        due.is("(0, 0) is not known", x.logged(0, 0), -1);
        Steps.closeAndDecide(x, 0);
        due.is("logged(0, 0)", x.logged(0, 0), 1);
        due.is("logged(0, 1)", x.logged(0, 1), 2);
        due.is("logged(0, 2)", x.logged(0, 2), 0);
        due.is("logged(0, 3)", x.logged(0, 3), -1);
        x.submit(1, Steps.SET, 0, 0, 4);
        x.submit(0, Steps.SET, 0, 0, 5);
        Steps.closeAndDecide(x, 1);
        due.is("(1, 0) is not known", x.logged(1, 3), -1);
        Steps.closeAndDecide(x, 0);
        due.is("logged(1, 3)", x.logged(1, 3), 4);
        due.is("logged(1, 4)", x.logged(1, 4), 3);
        x.resend(0, 0);
        Steps.deliverAll(x);
        due.is("a CLOSED that comes again", x.logged(1, 5), -1);
        due.is("logged(1, -1)", x.logged(1, -1), -1);
        due.is("logged(1, MAX)", x.logged(1, Integer.MAX_VALUE), -1);
        due.is("logged(-1, 0)", x.logged(-1, 0), -1);
        due.is("logged(2, 0)", x.logged(2, 0), -1);
    }

    private static void logLeavesEmptySlotsOut() {
        Counted x = new Counted(2);
        x.submit(0, Steps.SET, 0, 0, 1);
        x.close(0);
        Steps.dropAll(x);
        x.crash(Steps.SEQUENCER);
        x.restart(Steps.SEQUENCER);
        Steps.deliverAll(x);
        x.submit(1, Steps.SET, 0, 0, 1);
        Steps.closeAndDecide(x, 1);
        due.is("status(0)", x.status(0), 3);
        due.is("logged(0, 0)", x.logged(0, 0), 1);
        due.is("logged(0, 1)", x.logged(0, 1), -1);
    }

    private static void logOfAllFortySlots() {
        Counted x = new Counted(1);
        for (int e = 0; e < 20; e++) {
            x.submit(1, Steps.ADD, 0, 0, e);
            x.close(0);
            x.close(1);
            Steps.deliver(x, 16);
        }
        due.is("messages()", x.messages(), 0);
        due.is("logged(0, 19)", x.logged(0, 19), 19);
        due.is("logged(0, 20)", x.logged(0, 20), -1);
        due.is("resend(1, 19)", x.resend(1, 19), 2);
        due.is("deliver(0)", x.deliver(0), true);
        due.is("a last CLOSED that comes again", x.logged(0, 20), -1);
    }
}
