/** The edges of promises 5 to 8, and of what the terms say of messages and their arrival. */
public final class MessageEdgesTest {
    private static final Due due = new Due("MessageEdgesTest");
    private static final Twins twins = new Twins(due);
    // In Scenes.busy there are eight messages, 0 to 7.
    private static final int[] NO_MESSAGES = {Integer.MIN_VALUE, -1, 8, 9, 60, 100, Integer.MAX_VALUE};

    public static void main(String[] args) {
        messagesCountsFromNone();
        theLongestList();
        messageThatThereIsNot();
        deliverOfNoMessage();
        deliverTakesOneOutOfTheList();
        dropOfNoMessage();
        dropOfEachKind();
        codesWithTheGreatestNumbers();
        codeOfTheLastTransaction();
        storeAtANodeThatIsDown();
        storeWithASmallerIncarnation();
        storeWithTheIncarnationPromised();
        storeWithAGreaterIncarnation();
        promisesAreKeptOverACrash();
        promisesAreOfOneSequencer();
        whatIsStoredLatestCounts();
        ackAtASequencerThatIsDown();
        ackWithAnotherIncarnation();
        ackAtADecidedSlot();
        ackOfANodeThatHasAcknowledged();
        theSecondAckDecides();
        closedAtAReplicaThatIsDown();
        closedOfASlotThatIsKnown();
        closedAtAReplicaThatIsUp();
        storeArrivesWhenManyAreUnderWay();
        ackArrivesWhenManyAreUnderWay();
        closedArrivesWhenManyAreUnderWay();
        valuesArriveWhenManyAreUnderWay();
        callsThatSendNothingWhenManyAreUnderWay();
        due.end();
    }

    private static void messagesCountsFromNone() {
        Counted x = Scenes.fresh();
        due.is("messages() of a new object", x.messages(), 0);
        x.close(0);
        due.is("messages()", x.messages(), 3);
        Steps.drop(x, 2);
        due.is("messages()", x.messages(), 1);
        x.drop(0);
        due.is("messages() when all are lost", x.messages(), 0);
    }

    // 48, then 9 by a restart, then three decisions with two messages for one each: no list is longer.
    private static void theLongestList() {
        Counted x = longestList();
        due.is("messages()", x.messages(), 60);
        due.is("the first of the restart", x.message(45), 1000001);
        due.is("the last of the restart", x.message(53), 1002021);
        due.is("the first of the decisions", x.message(54), 3100000);
        due.is("the last message", x.message(59), 3102010);
        due.is("message(60)", x.message(60), -1);
        due.is("deliver(60)", x.deliver(60), false);
        due.is("drop(60)", x.drop(60), false);
        due.is("deliver(59)", x.deliver(59), true);
        due.is("drop(58)", x.drop(58), true);
        Steps.deliverAll(x);
        due.is("messages()", x.messages(), 0);
        for (int e = 0; e < 3; e++) {
            due.is("what the restart sent is stored", x.stored(2, 0, e), 5);
            due.is("sequencer 1 has decided", x.resend(1, e), 2);
        }
    }

    private static Counted longestList() {
        Counted x = new Counted(2);
        for (int e = 0; e < 3; e++) {
            x.close(1);
        }
        // Node 0 acknowledges each slot of sequencer 1, and an ACK of node 1 is under way.
        int[] arrivals = {0, 8, 0, 1, 7, 1, 2, 6, 2};
        for (int i : arrivals) {
            x.deliver(i);
        }
        for (int e = 0; e < 3; e++) {
            x.close(0);
        }
        for (int i = 0; i < 11; i++) {
            x.resend(0, i % 3);
        }
        due.is("messages() before the restart", x.messages(), 48);
        x.crash(Steps.SEQUENCER);
        x.restart(Steps.SEQUENCER);
        due.is("messages() after the restart", x.messages(), 57);
        Steps.deliverAt(x, 3, 3);
        return x;
    }

    // "NONE when there is none"
    private static void messageThatThereIsNot() {
        for (int i : NO_MESSAGES) {
            twins.none("message(" + i + ")", Scenes::busy, x -> x.message(i));
        }
        due.is("message(0)", Scenes.busy().message(0), 4002001);
        due.is("message(7)", Scenes.busy().message(7), 3000010);
        twins.none("message(0) of a new object", Scenes::fresh, x -> x.message(0));
    }

    // "false when there is none"
    private static void deliverOfNoMessage() {
        for (int i : NO_MESSAGES) {
            twins.isFalse("deliver(" + i + ")", Scenes::busy, x -> x.deliver(i));
        }
        due.is("deliver(0)", Scenes.busy().deliver(0), true);
        due.is("deliver(7)", Scenes.busy().deliver(7), true);
        twins.isFalse("deliver(0) of a new object", Scenes::fresh, x -> x.deliver(0));
    }

    // "which takes it out of the list"; "What it sends goes to the end of the list."
    private static void deliverTakesOneOutOfTheList() {
        for (int i = 0; i < 6; i++) {
            Counted x = new Counted(2);
            x.close(0);
            x.close(1);
            int[] codes = {1000000, 1000010, 1000020, 1100000, 1100010, 1100020};
            x.deliver(i);
            due.is("messages()", x.messages(), 6);
            for (int j = 0; j < 5; j++) {
                due.is("the rest without " + i, x.message(j), codes[j < i ? j : j + 1]);
            }
            due.is("the ACK", x.message(5), codes[i] + 1000000);
        }
    }

    // "refused with false when there is none"
    private static void dropOfNoMessage() {
        for (int i : NO_MESSAGES) {
            twins.isFalse("drop(" + i + ")", Scenes::busy, x -> x.drop(i));
        }
        twins.isFalse("drop(0) of a new object", Scenes::fresh, x -> x.drop(0));
    }

    // "or it is a VALUES"
    private static void dropOfEachKind() {
        Counted busy = Scenes.busy();
        for (int i = 0; i < 8; i++) {
            int lost = i;
            int code = busy.message(i);
            if (code / 1000000 == 4) {
                twins.isFalse("drop of the VALUES", Scenes::busy, x -> x.drop(lost));
            } else {
                Counted x = Scenes.busy();
                due.is("drop of " + code, x.drop(i), true);
                due.is("messages()", x.messages(), 7);
                due.is("the one behind it", x.message(i), busy.message(i + 1));
                due.is("nothing is stored", x.stored(1, 1, 1), 0);
                due.is("nothing is decided", x.status(5), 1);
            }
        }
    }

    // The codes for epoch 19, sequencer 1, log node 2, replica 1 and empty
    private static void codesWithTheGreatestNumbers() {
        Counted x = new Counted(4);
        for (int e = 0; e < 19; e++) {
            x.close(1);
            Steps.deliver(x, 8);
        }
        x.close(1);
        due.is("STORE of the original", x.message(2), 1119020);
        Steps.dropAll(x);
        x.crash(4);
        x.restart(4);
        due.is("STORE", x.message(2), 1119021);
        x.deliver(2);
        due.is("ACK", x.message(2), 2119020);
        x.deliver(2);
        x.deliver(1);
        x.deliver(1);
        due.is("CLOSED", x.message(1), 3119001);
        due.is("CLOSED", x.message(2), 3119011);
    }

    // VALUES of transaction 99 in replica 1, from partition 3 to 2 and from 2 to 3
    private static void codeOfTheLastTransaction() {
        Counted x = Scenes.transactions(99);
        due.is("submit", x.submit(0, Steps.SWAP, 11, 10, 0), 99);
        Steps.closeAndDecide(x, 0);
        due.is("admit(1, 3)", x.admit(1, 3), 96);
        Steps.admit(x, 1, 3, 2);
        due.is("admit(1, 3)", x.admit(1, 3), 99);
        Steps.admit(x, 1, 2, 4);
        due.is("look(1, 3, 0)", x.look(1, 3, 0), 99);
        due.is("look(1, 2, 0)", x.look(1, 2, 0), 99);
        due.is("message(0)", x.message(0), 4199032);
        due.is("message(1)", x.message(1), 4199023);
        due.is("deliver(0)", x.deliver(0), true);
        due.is("finished(1, 2)", x.finished(1, 2), 4);
        due.is("finished(1, 3)", x.finished(1, 3), 3);
        x.deliver(0);
        due.is("finished(1, 3)", x.finished(1, 3), 4);
    }

    private static Counted closed() {
        Counted x = new Counted(2);
        x.submit(0, Steps.ADD, 0, 0, 1);
        x.close(0);
        return x;
    }

    // STORE: "nothing happens if the node is down"
    private static void storeAtANodeThatIsDown() {
        for (int l = 0; l < 3; l++) {
            int node = l;
            twins.nothingHappens("STORE at node " + l + " that is down", () -> crashed(closed(), node), l);
            Counted x = crashed(closed(), (l + 1) % 3);
            x.deliver(l);
            due.is("STORE at a node that is up", x.stored(l, 0, 0), 2);
            due.is("its ACK", x.message(2), 2000000 + 10 * l);
        }
    }

    private static Counted crashed(Counted x, int node) {
        x.crash(node);
        return x;
    }

    /** Messages 0 to 2 are STOREs of incarnation 1, 3 to 5 of incarnation 2; log node down was not up. */
    private static Counted restarted(int down) {
        Counted x = closed();
        x.crash(down);
        x.crash(Steps.SEQUENCER);
        x.restart(Steps.SEQUENCER);
        x.restart(down);
        return x;
    }

    // STORE: "or has promised s a greater incarnation": by a restart, and by a STORE
    private static void storeWithASmallerIncarnation() {
        for (int l = 1; l < 3; l++) {
            twins.nothingHappens("STORE with less than promised at " + l, () -> restarted(0), l);
        }
        twins.nothingHappens("STORE with less than promised by a STORE", () -> delivered(restarted(0), 3), 0);
        Counted x = restarted(0);
        due.is("deliver(0)", x.deliver(0), true);
        due.is("one that has promised nothing", x.stored(0, 0, 0), 2);
        due.is("its ACK", x.message(5), 2000000);
    }

    private static Counted delivered(Counted x, int i) {
        x.deliver(i);
        return x;
    }

    private static void storeWithTheIncarnationPromised() {
        Counted x = closed();
        x.resend(0, 0);
        x.deliver(0);
        due.is("incarnation 1 is promised", x.stored(0, 0, 0), 2);
        x.deliver(2);
        due.is("it is stored again", x.stored(0, 0, 0), 2);
        due.is("and acknowledged again", x.message(5), 2000000);
        Counted y = restarted(0);
        y.deliver(4);
        due.is("incarnation 2 is promised", y.stored(1, 0, 0), 5);
        due.is("its ACK", y.message(5), 2000010);
    }

    // "otherwise this incarnation is promised to s"
    private static void storeWithAGreaterIncarnation() {
        Counted x = restarted(0);
        x.deliver(0);
        due.is("incarnation 1", x.stored(0, 0, 0), 2);
        x.deliver(2);
        due.is("incarnation 2", x.stored(0, 0, 0), 5);
        due.is("its ACK", x.message(5), 2000000);
        due.is("the ACK of incarnation 1", x.message(4), 2000000);
        x.deliver(4);
        x.deliver(3);
        x.deliver(4);
        due.is("the ACK of incarnation 1 is none", x.status(0), 1);
        x.deliver(3);
        due.is("that of incarnation 2 is one", x.status(0), 3);
    }

    // "keep, also over a crash, .. the greatest incarnation PROMISED" and "what was STORED there latest"
    private static void promisesAreKeptOverACrash() {
        twins.nothingHappens("STORE with less than promised before a crash", () -> upAgain(restarted(0), 1), 1);
        twins.nothingHappens("STORE with less than promised by a STORE before a crash",
                () -> upAgain(delivered(restarted(0), 3), 0), 0);
        Counted x = delivered(closed(), 1);
        x.crash(1);
        due.is("stored, of one that is down", x.stored(1, 0, 0), 2);
        x.restart(1);
        due.is("stored, after a crash", x.stored(1, 0, 0), 2);
        x.crash(Steps.SEQUENCER);
        x.restart(Steps.SEQUENCER);
        due.is("it is proposed", x.message(3), 1000000);
    }

    private static Counted upAgain(Counted x, int node) {
        x.crash(node);
        x.restart(node);
        return x;
    }

    private static void promisesAreOfOneSequencer() {
        Counted x = new Counted(2);
        x.close(0);
        x.close(1);
        x.crash(4);
        x.restart(4);
        for (int l = 0; l < 3; l++) {
            x.deliver(0);
            due.is("STORE of sequencer 0", x.stored(l, 0, 0), 2);
        }
        Steps.deliver(x, 3);
        due.is("STORE of sequencer 1", x.stored(2, 1, 0), 0);
    }

    // "for each slot what was STORED there latest (original or empty) and with which incarnation"
    private static void whatIsStoredLatestCounts() {
        Counted x = new Counted(2);
        x.close(0);
        x.close(0);
        x.deliver(0);
        due.is("the slot of the STORE", x.stored(0, 0, 0), 2);
        due.is("the other slot", x.stored(0, 0, 1), 0);
        Steps.dropAll(x);
        x.crash(0);
        x.crash(Steps.SEQUENCER);
        x.restart(Steps.SEQUENCER);
        x.restart(0);
        x.deliver(0);
        due.is("empty in the place of the original", x.stored(0, 0, 0), 5);
    }

    /** Message 0 is an ACK of log node 0 for the slot (0, 0), and no others are under way. */
    private static Counted ackUnderWay() {
        Counted x = delivered(closed(), 0);
        x.drop(0);
        x.drop(0);
        return x;
    }

    // ACK: "nothing happens if the sequencer is down"
    private static void ackAtASequencerThatIsDown() {
        twins.nothingHappens("ACK at one that is down", () -> crashed(ackUnderWay(), 3), 0);
        Counted x = crashed(ackUnderWay(), 4);
        x.deliver(0);
        due.is("it has acknowledged", x.resend(0, 0), 2);
        twins.nothingHappens("the second ACK at one that is down", () -> crashed(oneOfTwoAcks(), 3), 0);
        Counted y = oneOfTwoAcks();
        y.deliver(0);
        due.is("the second ACK at one that is up", y.status(0), 2);
    }

    /** Log node 0 has acknowledged the slot (0, 0); message 0 is the ACK of log node 1. */
    private static Counted oneOfTwoAcks() {
        Counted x = closed();
        Steps.deliver(x, 2);
        x.drop(0);
        x.deliver(0);
        return x;
    }

    // "has another incarnation than the ACK"
    private static void ackWithAnotherIncarnation() {
        twins.nothingHappens("ACK of incarnation 1 at 2", () -> upAgain(ackUnderWay(), 3), 0);
        twins.nothingHappens("ACK of incarnation 1 at 3", () -> upAgain(upAgain(ackUnderWay(), 3), 3), 0);
        Counted x = upAgain(closed(), 3);
        x.deliver(3);
        x.deliver(5);
        due.is("ACK of incarnation 2 at 2", x.resend(0, 0), 2);
        Counted y = upAgain(ackUnderWay(), 4);
        y.deliver(0);
        due.is("the incarnation of the other is nothing to it", y.resend(0, 0), 2);
    }

    // "or the slot is decided"
    private static void ackAtADecidedSlot() {
        twins.nothingHappens("the third ACK", MessageEdgesTest::thirdAck, 0);
        due.is("the third ACK", thirdAck().message(0), 2000020);
        twins.nothingHappens("an ACK that comes again", MessageEdgesTest::ackAgainAtADecidedSlot, 1);
        due.is("an ACK that comes again", ackAgainAtADecidedSlot().message(1), 2000000);
    }

    private static Counted thirdAck() {
        Counted x = closed();
        Steps.deliver(x, 5);
        return x;
    }

    private static Counted ackAgainAtADecidedSlot() {
        Counted x = closed();
        x.resend(0, 0);
        x.drop(2);
        x.drop(4);
        // STOREs to nodes 0, 1, 0 and 1; three ACKs are sent, and two of them arrive.
        Steps.deliver(x, 3);
        Steps.deliverAt(x, 1, 2);
        return x;
    }

    // "when it is the second one that has": one node that acknowledges twice is one
    private static void ackOfANodeThatHasAcknowledged() {
        twins.nothingHappens("an ACK that comes again", MessageEdgesTest::ackAgain, 0);
        Counted x = ackAgain();
        x.deliver(0);
        due.is("one node has acknowledged", x.status(0), 1);
        due.is("two have not", x.resend(0, 0), 2);
    }

    private static Counted ackAgain() {
        Counted x = closed();
        x.resend(0, 0);
        x.deliver(0);
        x.deliver(2);
        x.deliver(4);
        for (int i = 0; i < 4; i++) {
            x.drop(0);
        }
        return x;
    }

    // "when it is the second one that has, the slot is DECIDED .., and a CLOSED is sent to replica 0 and one to 1"
    private static void theSecondAckDecides() {
        int[][] pairs = {{0, 1}, {1, 0}, {0, 2}, {2, 0}, {1, 2}, {2, 1}};
        for (int[] pair : pairs) {
            Counted x = closed();
            Steps.deliver(x, 3);
            x.deliver(pair[0]);
            due.is("the first", x.status(0), 1);
            due.is("nothing is sent", x.messages(), 2);
            x.deliver(pair[1] > pair[0] ? pair[1] - 1 : pair[1]);
            due.is("the second", x.status(0), 2);
            due.is("messages()", x.messages(), 3);
            due.is("CLOSED", x.message(1), 3000000);
            due.is("CLOSED", x.message(2), 3000010);
        }
    }

    /** Messages 0 and 1 are the CLOSEDs of the slot (0, 0). */
    private static Counted closedUnderWay() {
        Counted x = closed();
        Steps.deliver(x, 5);
        x.drop(0);
        return x;
    }

    // CLOSED: "if the replica is up, it knows the slot"
    private static void closedAtAReplicaThatIsDown() {
        for (int r = 0; r < 2; r++) {
            int down = Steps.REPLICA + r;
            twins.nothingHappens("CLOSED at replica " + r + " that is down",
                    () -> crashed(closedUnderWay(), down), r);
            Counted x = crashed(closedUnderWay(), down);
            x.deliver(r);
            x.restart(down);
            due.is("it does not know the slot", x.logged(r, 0), -1);
            x.deliver(0);
            due.is("the other does", x.logged(1 - r, 0), 0);
        }
    }

    private static void closedOfASlotThatIsKnown() {
        for (int r = 0; r < 2; r++) {
            int again = r;
            twins.nothingHappens("CLOSED that comes again", () -> knownAndClosedAgain(again), 1);
            Counted x = knownAndClosedAgain(r);
            x.deliver(1);
            due.is("the log", x.logged(r, 0), 0);
            due.is("the log has no more", x.logged(r, 1), -1);
        }
    }

    /** Replica r knows the slot (0, 0), and message 1 is another CLOSED to it. */
    private static Counted knownAndClosedAgain(int r) {
        Counted x = delivered(closedUnderWay(), r);
        x.resend(0, 0);
        if (r == 1) {
            x.drop(1);
        }
        return x;
    }

    private static void closedAtAReplicaThatIsUp() {
        for (int r = 0; r < 2; r++) {
            Counted x = crashed(closedUnderWay(), Steps.SEQUENCER);
            x.deliver(r);
            due.is("it knows the slot", x.logged(r, 0), 0);
            due.is("the other does not", x.logged(1 - r, 0), -1);
        }
    }

    // "(an arrival is never refused)"
    private static void storeArrivesWhenManyAreUnderWay() {
        Counted x = Scenes.underWay(50);
        due.is("STORE with 50", x.deliver(0), true);
        due.is("it is stored", x.stored(0, 1, 0), 2);
        due.is("messages()", x.messages(), 50);
        due.is("the ACK", x.message(49), 2100000);
        Counted y = Scenes.underWay(49);
        due.is("STORE with 49", y.deliver(2), true);
        due.is("the ACK", y.message(48), 2100020);
    }

    private static void ackArrivesWhenManyAreUnderWay() {
        Counted x = Scenes.underWay(50);
        x.deliver(0);
        x.deliver(0);
        due.is("the first ACK with 50", x.deliver(48), true);
        due.is("messages()", x.messages(), 49);
        due.is("the second ACK with 49", x.deliver(48), true);
        due.is("messages()", x.messages(), 50);
        due.is("CLOSED", x.message(48), 3100000);
        due.is("CLOSED", x.message(49), 3100010);
        due.is("it is decided: sequencer 1 sends CLOSED", x.drop(0) && x.drop(0) && x.resend(1, 0) == 2, true);
    }

    private static void closedArrivesWhenManyAreUnderWay() {
        Counted x = Scenes.underWay(50);
        Steps.deliver(x, 2);
        Steps.deliverAt(x, 48, 2);
        due.is("CLOSED with 50", x.deliver(49), true);
        due.is("messages()", x.messages(), 49);
        due.is("CLOSED with 49", x.deliver(48), true);
        due.is("messages()", x.messages(), 48);
    }

    private static void valuesArriveWhenManyAreUnderWay() {
        Counted x = Scenes.underWay(47);
        due.is("look(0, 0, 0)", x.look(0, 0, 0), 0);
        due.is("look(0, 1, 0)", x.look(0, 1, 0), 0);
        due.is("messages()", x.messages(), 49);
        due.is("VALUES", x.message(47), 4000001);
        due.is("VALUES with 49", x.deliver(47), true);
        due.is("finished(0, 1)", x.finished(0, 1), 2);
        due.is("value(0, 1)", x.value(0, 1), 130);
    }

    // "A call that would send messages is refused": others are not
    private static void callsThatSendNothingWhenManyAreUnderWay() {
        Counted x = Scenes.underWay(50);
        due.is("submit", x.submit(0, Steps.SET, 0, 0, 1), 2);
        due.is("admit", x.admit(1, 0), 0);
        due.is("checkpoint", x.checkpoint(0), -1);
        due.is("drop", x.drop(49), true);
        for (int node = 0; node <= 6; node++) {
            due.is("crash of " + node, x.crash(node), true);
        }
        int[] nodes = {0, 1, 2, 5, 6};
        for (int node : nodes) {
            due.is("restart of " + node, x.restart(node), true);
        }
        due.is("checkpoint", x.checkpoint(0), 0);
        due.is("messages()", x.messages(), 49);
    }
}
