/** The edges of promises 3 and 4: closing and sending again. */
public final class SlotEdgesTest {
    private static final Due due = new Due("SlotEdgesTest");
    private static final Twins twins = new Twins(due);
    private static final int[] NO_SEQUENCERS = {Integer.MIN_VALUE, -1, 2, 3, Integer.MAX_VALUE};

    public static void main(String[] args) {
        aBatchMayHaveNoneToSix();
        closeOfNoSequencer();
        closeOfASequencerThatIsDown();
        threeMayBeUndecided();
        threeAreCountedForEachSequencer();
        slotsDecidedAsEmptyAreDecided();
        undecidedSlotsStayOverARestart();
        thereAreTwentyEpochs();
        twentyAreCountedForEachSequencer();
        closeWithFortyEightUnderWay();
        resendCountsThoseThatHaveNotAcknowledged();
        resendGoesToNodesThatAreDown();
        resendOfADecidedSlot();
        resendTellsWhatIsProposedNow();
        nothingIsAcknowledgedAfterARestart();
        resendOfNoSequencer();
        resendOfASequencerThatIsDown();
        resendOfNoEpoch();
        resendWithFortyEightUnderWay();
        due.end();
    }

    private static void messagesAre(String when, Counted x, int... codes) {
        due.is("messages() " + when, x.messages(), codes.length);
        for (int i = 0; i < codes.length; i++) {
            due.is("message(" + i + ") " + when, x.message(i), codes[i]);
        }
    }

    // "closes its open batch (which may have no transactions)"; "at most six transactions"
    private static void aBatchMayHaveNoneToSix() {
        for (int count = 0; count <= 6; count++) {
            Counted x = new Counted(1);
            Steps.submitAdds(x, 0, 0, count);
            due.is("close with " + count, x.close(0), 0);
            messagesAre("with " + count, x, 1000000, 1000010, 1000020);
            Steps.deliverAll(x);
            due.is("the last of " + count, x.logged(0, count - 1), count - 1);
            due.is("none behind " + count, x.logged(0, count), -1);
            due.is("the batch is open again", x.close(0), 1);
            due.is("status of the first", x.status(0), count == 0 ? -1 : 2);
        }
    }

    // "Refused with NONE when there is no sequencer s"
    private static void closeOfNoSequencer() {
        for (int s : NO_SEQUENCERS) {
            twins.none("close(" + s + ")", Scenes::busy, x -> x.close(s));
        }
        due.is("close(0)", Scenes.busy().close(0), 2);
        due.is("close(1)", Scenes.busy().close(1), 2);
    }

    // "or it is down"
    private static void closeOfASequencerThatIsDown() {
        for (int s = 0; s < 2; s++) {
            int down = s;
            twins.none("close of " + s + " that is down", () -> withSequencerDown(down), x -> x.close(down));
            due.is("close of the other", withSequencerDown(s).close(1 - s), 2);
            Counted x = withSequencerDown(s);
            x.restart(Steps.SEQUENCER + s);
            due.is("close when it is up again", x.close(s), 2);
        }
    }

    private static Counted withSequencerDown(int s) {
        Counted x = Scenes.busy();
        x.crash(Steps.SEQUENCER + s);
        return x;
    }

    // "three of its slots are not decided": two, three, and two again
    private static void threeMayBeUndecided() {
        for (int s = 0; s < 2; s++) {
            int full = s;
            due.is("one is not decided", undecided(s, 1).close(s), 1);
            due.is("two are not decided", undecided(s, 2).close(s), 2);
            twins.none("three are not decided", () -> undecided(full, 3), x -> x.close(full));
            Counted x = undecided(s, 3);
            decideFirst(x);
            due.is("one of three is decided", x.close(s), 3);
            due.is("three are not decided again", x.close(s), -1);
        }
    }

    /** Slots with one transaction each; one more is in the open batch. */
    private static Counted undecided(int s, int slots) {
        Counted x = new Counted(2);
        for (int e = 0; e < slots; e++) {
            x.submit(s, Steps.ADD, e, 0, 1);
            x.close(s);
        }
        x.submit(s, Steps.ADD, 9, 0, 1);
        return x;
    }

    /** The slot whose STOREs are the first three of nine messages is decided by two log nodes. */
    private static void decideFirst(Counted x) {
        Steps.deliver(x, 2);
        x.deliver(7);
        x.deliver(7);
    }

    private static void threeAreCountedForEachSequencer() {
        Counted x = undecided(0, 3);
        for (int e = 0; e < 3; e++) {
            due.is("close of the other", x.close(1), e);
        }
        due.is("three of the other", x.close(1), -1);
        due.is("messages()", x.messages(), 18);
    }

    private static void slotsDecidedAsEmptyAreDecided() {
        Counted x = undecided(0, 3);
        Steps.dropAll(x);
        x.crash(Steps.SEQUENCER);
        x.restart(Steps.SEQUENCER);
        due.is("three are proposed as empty", x.close(0), -1);
        decideFirst(x);
        due.is("status", x.status(0), 3);
        due.is("one is decided as empty", x.close(0), 3);
    }

    private static void undecidedSlotsStayOverARestart() {
        Counted x = undecided(0, 3);
        x.crash(Steps.SEQUENCER);
        x.restart(Steps.SEQUENCER);
        due.is("three after a restart", x.close(0), -1);
        Counted y = undecided(0, 2);
        y.crash(Steps.SEQUENCER);
        y.restart(Steps.SEQUENCER);
        due.is("two after a restart", y.close(0), 2);
    }

    // "with epochs 0 .. 19 for each sequencer"; "it has 20 slots": 18, 19 and 20
    private static void thereAreTwentyEpochs() {
        due.is("the 19th", Scenes.decidedSlots(18).close(0), 18);
        Counted x = Scenes.decidedSlots(19);
        due.is("the 20th", x.close(0), 19);
        messagesAre("of the 20th", x, 1019000, 1019010, 1019020);
        twins.none("the 21st", () -> Scenes.decidedSlots(20), y -> y.close(0));
        due.is("the 20th is not decided", x.close(0), -1);
    }

    private static void twentyAreCountedForEachSequencer() {
        Counted x = Scenes.decidedSlots(20);
        for (int e = 0; e < 20; e++) {
            due.is("close of the other", x.close(1), e);
            Steps.deliver(x, 8);
        }
        due.is("the 21st of the other", x.close(1), -1);
        due.is("messages()", x.messages(), 0);
    }

    // "or more than 48 messages are under way": 47, 48, 49 and 50
    private static void closeWithFortyEightUnderWay() {
        due.is("close with 47", Scenes.underWay(47).close(0), 1);
        due.is("close with 48", Scenes.underWay(48).close(0), 1);
        twins.none("close with 49", () -> Scenes.underWay(49), x -> x.close(0));
        twins.none("close with 50", () -> Scenes.underWay(50), x -> x.close(0));
        Counted x = Scenes.underWay(48);
        x.close(1);
        due.is("messages()", x.messages(), 51);
        due.is("message(48)", x.message(48), 1101000);
        due.is("message(50)", x.message(50), 1101020);
        twins.none("close with 51", () -> closed(Scenes.underWay(48), 1), y -> y.close(0));
    }

    private static Counted closed(Counted x, int s) {
        x.close(s);
        return x;
    }

    // "otherwise STORE .. to each log node that has not acknowledged it": none has, or one
    private static void resendCountsThoseThatHaveNotAcknowledged() {
        Counted x = new Counted(2);
        x.close(1);
        Steps.dropAll(x);
        due.is("none has acknowledged", x.resend(1, 0), 3);
        messagesAre("when none has acknowledged", x, 1100000, 1100010, 1100020);
        int[][] rest = {{1100010, 1100020}, {1100000, 1100020}, {1100000, 1100010}};
        for (int l = 0; l < 3; l++) {
            Counted y = acknowledgedBy(l);
            due.is("node " + l + " has acknowledged", y.resend(1, 0), 2);
            messagesAre("when " + l + " has acknowledged", y, rest[l]);
        }
    }

    /** The slot (0, 1) is acknowledged by log node l alone; no messages are under way. */
    private static Counted acknowledgedBy(int l) {
        Counted x = new Counted(2);
        x.submit(1, Steps.ADD, 0, 0, 1);
        x.close(1);
        x.deliver(l);
        x.deliver(2);
        Steps.dropAll(x);
        return x;
    }

    private static void resendGoesToNodesThatAreDown() {
        Counted x = acknowledgedBy(1);
        x.crash(0);
        x.crash(1);
        due.is("with nodes down", x.resend(1, 0), 2);
        messagesAre("with nodes down", x, 1100000, 1100020);
    }

    // "if it is decided, CLOSED to replicas 0 and 1": as original and as empty, by two nodes and by three
    private static void resendOfADecidedSlot() {
        Counted x = acknowledgedBy(2);
        x.resend(1, 0);
        x.deliver(0);
        x.deliver(1);
        Steps.dropAll(x);
        due.is("decided by the second", x.resend(1, 0), 2);
        messagesAre("as original", x, 3100000, 3100010);
        Counted y = new Counted(2);
        y.submit(1, Steps.ADD, 0, 0, 1);
        y.close(1);
        Steps.dropAll(y);
        y.crash(4);
        y.restart(4);
        Steps.deliverAll(y);
        due.is("decided as empty", y.resend(1, 0), 2);
        messagesAre("as empty", y, 3100001, 3100011);
        y.crash(5);
        y.crash(6);
        due.is("with both replicas down", y.resend(1, 0), 2);
    }

    // "with what is proposed now"
    private static void resendTellsWhatIsProposedNow() {
        Counted x = acknowledgedBy(0);
        x.crash(0);
        x.crash(4);
        x.restart(4);
        Steps.dropAll(x);
        due.is("the node that stored it was down", x.resend(1, 0), 3);
        messagesAre("as empty", x, 1100001, 1100011, 1100021);
        x.restart(0);
        Steps.dropAll(x);
        x.crash(4);
        x.restart(4);
        Steps.dropAll(x);
        due.is("the node that stored it is up", x.resend(1, 0), 3);
        messagesAre("as original", x, 1100000, 1100010, 1100020);
    }

    // A restart: "no node has acknowledged it"
    private static void nothingIsAcknowledgedAfterARestart() {
        Counted x = acknowledgedBy(0);
        x.crash(4);
        x.restart(4);
        messagesAre("after the restart", x, 1100000, 1100010, 1100020);
        Steps.dropAll(x);
        due.is("resend after the restart", x.resend(1, 0), 3);
        x.deliver(1);
        x.deliver(2);
        due.is("the first that acknowledges anew", x.status(0), 1);
        x.deliver(0);
        x.deliver(1);
        due.is("the second", x.status(0), 2);
    }

    // "refused with NONE when there is no sequencer s"
    private static void resendOfNoSequencer() {
        for (int s : NO_SEQUENCERS) {
            twins.none("resend(" + s + ", 0)", Scenes::busy, x -> x.resend(s, 0));
        }
        due.is("resend(0, 0)", Scenes.busy().resend(0, 0), 2);
        due.is("resend(1, 0)", Scenes.busy().resend(1, 0), 2);
    }

    // "or it is down"
    private static void resendOfASequencerThatIsDown() {
        for (int s = 0; s < 2; s++) {
            int down = s;
            for (int e = 0; e < 2; e++) {
                int epoch = e;
                twins.none("resend(" + s + ", " + e + ") of one that is down", () -> withSequencerDown(down),
                        x -> x.resend(down, epoch));
            }
            due.is("resend of the other", withSequencerDown(s).resend(1 - s, 0), 2);
        }
    }

    // "it has no slot of that epoch": the epochs 0 and 1 are there
    private static void resendOfNoEpoch() {
        int[] none = {Integer.MIN_VALUE, -1, 2, 3, 19, 20, 21, Integer.MAX_VALUE};
        for (int e : none) {
            twins.none("resend(0, " + e + ")", Scenes::busy, x -> x.resend(0, e));
            twins.none("resend(1, " + e + ")", Scenes::busy, x -> x.resend(1, e));
        }
        due.is("resend(0, 1)", Scenes.busy().resend(0, 1), 2);
        due.is("resend(1, 1)", Scenes.busy().resend(1, 1), 3);
        twins.none("resend of a new object", Scenes::fresh, x -> x.resend(0, 0));
        due.is("resend(0, 19)", Scenes.decidedSlots(20).resend(0, 19), 2);
        twins.none("resend(0, 20)", () -> Scenes.decidedSlots(20), x -> x.resend(0, 20));
        twins.none("resend(0, 19) with 19 slots", () -> Scenes.decidedSlots(19), x -> x.resend(0, 19));
    }

    // "or more than 48 messages are under way": 47, 48, 49 and 50
    private static void resendWithFortyEightUnderWay() {
        due.is("resend of a decided slot with 47", Scenes.underWay(47).resend(0, 0), 2);
        due.is("resend of a decided slot with 48", Scenes.underWay(48).resend(0, 0), 2);
        due.is("resend of an undecided slot with 47", Scenes.underWay(47).resend(1, 0), 3);
        due.is("resend of an undecided slot with 48", Scenes.underWay(48).resend(1, 0), 3);
        for (int messages = 49; messages <= 50; messages++) {
            int many = messages;
            twins.none("resend of a decided slot with " + many, () -> Scenes.underWay(many), x -> x.resend(0, 0));
            twins.none("resend of an undecided slot with " + many, () -> Scenes.underWay(many), x -> x.resend(1, 0));
        }
    }
}
