/** The edges of promises 9 and 10: nodes that go down and come up again. */
public final class NodeEdgesTest {
    private static final Due due = new Due("NodeEdgesTest");
    private static final Twins twins = new Twins(due);
    private static final int[] NO_NODES = {Integer.MIN_VALUE, -1, 7, 8, Integer.MAX_VALUE};
    private static final int SEQUENCER_1 = Steps.SEQUENCER + 1;

    public static void main(String[] args) {
        crashOfNoNode();
        crashOfANodeThatIsDown();
        crashOfEachNode();
        restartOfNoNode();
        restartOfANodeThatIsUp();
        restartOfEachNode();
        sequencerNeedsTwoLogNodes();
        otherNodesNeedNoLogNodes();
        sequencerWithFortyEightUnderWay();
        sequencerWithNothingToSend();
        otherNodesWithManyUnderWay();
        incarnationGrowsByOne();
        incarnationIsPromisedByNodesThatAreUp();
        openBatchIsLost();
        nothingIsStored();
        originalIsStoredOnOneNode();
        storedOnlyOnANodeThatIsDown();
        emptyIsStoredWithTheGreatestIncarnation();
        originalIsStoredWithTheGreatestIncarnation();
        decidedSlotsAreLeftAlone();
        everyUndecidedSlotIsSentInOrder();
        slotsOfTheOtherAreLeftAlone();
        replicaCrashWithValuesUnderWay();
        replicaCrashWithoutValuesUnderWay();
        messagesThatStayKeepTheirIncarnation();
        replicaCrashWithValuesReceived();
        replicaKeepsWhatItKnows();
        replicaBeginsBehindItsCheckpoint();
        due.end();
    }

    // crash: "False when there is no such node"
    private static void crashOfNoNode() {
        for (int node : NO_NODES) {
            twins.isFalse("crash(" + node + ")", Scenes::busy, x -> x.crash(node));
        }
    }

    // "or it is down"
    private static void crashOfANodeThatIsDown() {
        for (int node = 0; node <= 6; node++) {
            int down = node;
            twins.isFalse("crash of " + node + " that is down", () -> crashed(Scenes.busy(), down),
                    x -> x.crash(down));
            twins.isFalse("crash of " + node + " when all are down", Scenes::allDown, x -> x.crash(down));
        }
    }

    private static Counted crashed(Counted x, int... nodes) {
        for (int node : nodes) {
            x.crash(node);
        }
        return x;
    }

    private static Counted restarted(Counted x, int... nodes) {
        for (int node : nodes) {
            x.restart(node);
        }
        return x;
    }

    private static void crashOfEachNode() {
        for (int node = 0; node <= 6; node++) {
            Counted x = Scenes.fresh();
            due.is("crash(" + node + ")", x.crash(node), true);
            for (int other = 0; other <= 6; other++) {
                due.is("restart(" + other + ") after the crash of " + node, x.restart(other), other == node);
            }
        }
    }

    // restart: "Refused with false when there is no such node"
    private static void restartOfNoNode() {
        for (int node : NO_NODES) {
            twins.isFalse("restart(" + node + ")", Scenes::busy, x -> x.restart(node));
            twins.isFalse("restart(" + node + ") when all are down", Scenes::allDown, x -> x.restart(node));
        }
    }

    // "or it is up"
    private static void restartOfANodeThatIsUp() {
        int[] up = {0, 1, 3, 4, 5, 6};
        for (int node : up) {
            twins.isFalse("restart of " + node + " that is up", Scenes::busy, x -> x.restart(node));
            twins.isFalse("restart of " + node + " that is up again",
                    () -> restarted(crashed(Scenes.busy(), node), node), x -> x.restart(node));
        }
    }

    private static void restartOfEachNode() {
        for (int node = 0; node <= 6; node++) {
            Counted x = crashed(Scenes.fresh(), node);
            due.is("restart(" + node + ")", x.restart(node), true);
            due.is("it is up", x.crash(node), true);
        }
    }

    // "a sequencer also when fewer than two log nodes are up": each set of log nodes
    private static void sequencerNeedsTwoLogNodes() {
        for (int set = 0; set < 8; set++) {
            int[] down = membersOf(set);
            for (int s = 0; s < 2; s++) {
                int node = Steps.SEQUENCER + s;
                String name = "restart of " + node + " with " + (3 - down.length) + " log nodes";
                if (down.length > 1) {
                    twins.isFalse(name, () -> crashed(undecidedAndDown(node), down), x -> x.restart(node));
                } else {
                    due.is(name, crashed(undecidedAndDown(node), down).restart(node), true);
                }
            }
        }
    }

    private static int[] membersOf(int set) {
        int[] members = new int[Integer.bitCount(set)];
        int count = 0;
        for (int l = 0; l < 3; l++) {
            if ((set >> l & 1) == 1) {
                members[count] = l;
                count++;
            }
        }
        return members;
    }

    /** The sequencer has a slot that is not decided and goes down with a transaction in its batch. */
    private static Counted undecidedAndDown(int node) {
        Counted x = new Counted(2);
        int s = node - Steps.SEQUENCER;
        x.submit(s, Steps.ADD, 0, 0, 1);
        x.close(s);
        x.deliver(0);
        x.submit(s, Steps.ADD, 1, 0, 1);
        x.crash(node);
        return x;
    }

    private static void otherNodesNeedNoLogNodes() {
        int[] others = {0, 1, 2, 5, 6};
        for (int node : others) {
            due.is("restart of " + node + " when all are down", Scenes.allDown().restart(node), true);
        }
        Counted x = Scenes.allDown();
        due.is("a sequencer with none", x.restart(3), false);
        x.restart(1);
        due.is("a sequencer with one", x.restart(3), false);
        x.restart(0);
        due.is("a sequencer with two", x.restart(3), true);
    }

    // "or more than 48 messages are under way": 47, 48, 49 and 50; the slot (0, 1) is not decided
    private static void sequencerWithFortyEightUnderWay() {
        for (int messages = 47; messages <= 48; messages++) {
            Counted x = crashed(Scenes.underWay(messages), SEQUENCER_1);
            due.is("restart with " + messages, x.restart(SEQUENCER_1), true);
            due.is("messages()", x.messages(), messages + 3);
            due.is("the first STORE", x.message(messages), 1100001);
        }
        for (int messages = 49; messages <= 50; messages++) {
            int many = messages;
            twins.isFalse("restart with " + many, () -> crashed(Scenes.underWay(many), SEQUENCER_1),
                    x -> x.restart(SEQUENCER_1));
        }
    }

    // The same when all slots of the sequencer are decided
    private static void sequencerWithNothingToSend() {
        for (int messages = 47; messages <= 48; messages++) {
            Counted x = crashed(Scenes.underWay(messages), Steps.SEQUENCER);
            due.is("restart with " + messages, x.restart(Steps.SEQUENCER), true);
            due.is("messages()", x.messages(), messages);
        }
        for (int messages = 49; messages <= 50; messages++) {
            int many = messages;
            twins.isFalse("restart that sends nothing with " + many,
                    () -> crashed(Scenes.underWay(many), Steps.SEQUENCER), x -> x.restart(Steps.SEQUENCER));
        }
        twins.isFalse("restart without slots with 49", () -> crashed(manyOfTheOther(), SEQUENCER_1),
                x -> x.restart(SEQUENCER_1));
    }

    /** 49 messages are under way; sequencer 1 has no slots. */
    private static Counted manyOfTheOther() {
        Counted x = new Counted(2);
        Steps.closeAndDecide(x, 0);
        Scenes.fill(x, 49);
        due.is("messages()", x.messages(), 49);
        return x;
    }

    private static void otherNodesWithManyUnderWay() {
        int[] others = {0, 1, 2, 5, 6};
        for (int node : others) {
            Counted x = Scenes.underWay(50);
            due.is("crash of " + node + " with 50", x.crash(node), true);
            due.is("restart of " + node + " with 50", x.restart(node), true);
        }
    }

    // "A sequencer has an INCARNATION, 1 at first"; "its incarnation grows by 1"
    private static void incarnationGrowsByOne() {
        Counted x = new Counted(2);
        for (int incarnation = 1; incarnation <= 6; incarnation++) {
            for (int s = 0; s < 2; s++) {
                int e = x.close(s);
                Steps.deliverAll(x);
                due.is("stored with " + incarnation, x.stored(0, s, e), 2 * incarnation);
                x.crash(Steps.SEQUENCER + s);
                due.is("refused while it is down", x.close(s), -1);
                x.restart(Steps.SEQUENCER + s);
            }
        }
    }

    // "and is promised to it by every log node that is up"
    private static void incarnationIsPromisedByNodesThatAreUp() {
        for (int down = 0; down < 3; down++) {
            Counted x = new Counted(2);
            x.submit(1, Steps.ADD, 0, 0, 1);
            x.close(1);
            crashed(x, down, SEQUENCER_1);
            restarted(x, SEQUENCER_1, down);
            Steps.deliver(x, 3);
            for (int l = 0; l < 3; l++) {
                due.is("an old STORE at " + l, x.stored(l, 1, 0), l == down ? 2 : 0);
            }
        }
    }

    // "its open batch is empty"; status 3 "when its sequencer crashed while it was in its open batch"
    private static void openBatchIsLost() {
        for (int count = 0; count <= 6; count++) {
            Counted x = new Counted(1);
            Steps.submitAdds(x, 1, 0, count);
            x.crash(SEQUENCER_1);
            for (int t = 0; t < count; t++) {
                due.is("status(" + t + ") of " + count, x.status(t), 3);
            }
            x.restart(SEQUENCER_1);
            due.is("messages()", x.messages(), 0);
            for (int i = 0; i < 6; i++) {
                due.is("submit", x.submit(1, Steps.ADD, 0, 0, 1), count + i);
            }
            due.is("the seventh", x.submit(1, Steps.ADD, 0, 0, 1), -1);
        }
    }

    private static void storesAre(String when, Counted x, int s, int empty) {
        due.is("messages() " + when, x.messages(), 3);
        for (int l = 0; l < 3; l++) {
            due.is("message(" + l + ") " + when, x.message(l), 1000000 + 100000 * s + 10 * l + empty);
        }
    }

    /** The slot (0, s) with one transaction; its STOREs arrive at these log nodes, and all else is lost. */
    private static Counted storedOn(int s, int... nodes) {
        Counted x = new Counted(2);
        x.submit(s, Steps.ADD, 0, 0, 1);
        x.close(s);
        for (int i = 0; i < nodes.length; i++) {
            x.deliver(nodes[i] - i);
        }
        Steps.dropAll(x);
        return x;
    }

    // "or empty if none of them has stored anything for it"
    private static void nothingIsStored() {
        for (int s = 0; s < 2; s++) {
            Counted x = crashed(storedOn(s), Steps.SEQUENCER + s);
            x.restart(Steps.SEQUENCER + s);
            storesAre("with nothing stored", x, s, 1);
            Steps.deliverAll(x);
            due.is("status(0)", x.status(0), 3);
            due.is("stored(1)", x.stored(1, s, 0), 5);
        }
    }

    // "what those of the log nodes that are up have stored for it"
    private static void originalIsStoredOnOneNode() {
        for (int s = 0; s < 2; s++) {
            for (int l = 0; l < 3; l++) {
                Counted x = crashed(storedOn(s, l), Steps.SEQUENCER + s);
                x.restart(Steps.SEQUENCER + s);
                storesAre("with the original on " + l, x, s, 0);
                Steps.deliverAll(x);
                due.is("status(0)", x.status(0), 2);
                due.is("stored", x.stored(1, s, 0), 4);
            }
        }
    }

    private static void storedOnlyOnANodeThatIsDown() {
        for (int l = 0; l < 3; l++) {
            Counted x = crashed(storedOn(0, l), l, Steps.SEQUENCER);
            x.restart(Steps.SEQUENCER);
            storesAre("with the original on " + l + " that is down", x, 0, 1);
        }
        int[][] pairs = {{0, 1}, {0, 2}, {1, 2}};
        for (int[] pair : pairs) {
            for (int down : pair) {
                Counted y = crashed(storedOn(0, pair), down, Steps.SEQUENCER);
                y.restart(Steps.SEQUENCER);
                storesAre("with the original on another than " + down + " too", y, 0, 0);
            }
        }
    }

    // "with the greatest incarnation": the original with 1, empty with 2
    private static void emptyIsStoredWithTheGreatestIncarnation() {
        Counted x = emptyOnOneOriginalOnZero();
        due.is("stored(0, 0, 0)", x.stored(0, 0, 0), 2);
        due.is("stored(1, 0, 0)", x.stored(1, 0, 0), 5);
        x.crash(Steps.SEQUENCER);
        x.restart(Steps.SEQUENCER);
        storesAre("with empty in the greatest", x, 0, 1);
    }

    private static Counted emptyOnOneOriginalOnZero() {
        Counted x = crashed(storedOn(0, 0), 0, Steps.SEQUENCER);
        x.restart(Steps.SEQUENCER);
        x.deliver(1);
        Steps.dropAll(x);
        x.restart(0);
        return x;
    }

    // The original with 3, empty with 2
    private static void originalIsStoredWithTheGreatestIncarnation() {
        Counted x = crashed(emptyOnOneOriginalOnZero(), 1, Steps.SEQUENCER);
        x.restart(Steps.SEQUENCER);
        storesAre("with the node that has empty down", x, 0, 0);
        x.deliver(2);
        Steps.dropAll(x);
        x.restart(1);
        due.is("stored(2, 0, 0)", x.stored(2, 0, 0), 6);
        x.crash(Steps.SEQUENCER);
        x.restart(Steps.SEQUENCER);
        storesAre("with the original in the greatest", x, 0, 0);
    }

    // "For each of its slots that is not decided"
    private static void decidedSlotsAreLeftAlone() {
        Counted x = new Counted(2);
        x.submit(0, Steps.ADD, 0, 0, 1);
        Steps.closeAndDecide(x, 0);
        x.crash(Steps.SEQUENCER);
        due.is("status while it is down", x.status(0), 2);
        x.restart(Steps.SEQUENCER);
        due.is("messages()", x.messages(), 0);
        due.is("status after the restart", x.status(0), 2);
        due.is("stored", x.stored(0, 0, 0), 2);
        x.resend(0, 0);
        due.is("CLOSED as original", x.message(0), 3000000);
    }

    // "in order of epochs"; "a STORE goes to log nodes 0, 1 and 2": with none, one, two and three not decided
    private static void everyUndecidedSlotIsSentInOrder() {
        for (int undecided = 0; undecided <= 3; undecided++) {
            Counted x = new Counted(2);
            Steps.closeAndDecide(x, 1);
            for (int i = 0; i < undecided; i++) {
                x.submit(1, Steps.ADD, 0, 0, 1);
                x.close(1);
            }
            Steps.dropAll(x);
            x.crash(SEQUENCER_1);
            x.crash(2);
            x.restart(SEQUENCER_1);
            due.is("messages()", x.messages(), 3 * undecided);
            for (int i = 0; i < 3 * undecided; i++) {
                due.is("message(" + i + ")", x.message(i), 1101001 + i / 3 * 1000 + i % 3 * 10);
            }
        }
    }

    private static void slotsOfTheOtherAreLeftAlone() {
        Counted x = new Counted(2);
        x.close(0);
        Steps.dropAll(x);
        crashed(x, SEQUENCER_1);
        restarted(x, SEQUENCER_1);
        due.is("messages()", x.messages(), 0);
        x.resend(0, 0);
        due.is("its original is still proposed", x.message(0), 1000000);
        x.deliver(0);
        due.is("its incarnation is still 1", x.stored(0, 0, 0), 2);
    }

    /** VALUES of both replicas and messages of the other kinds are under way. */
    private static Counted valuesUnderWay() {
        Counted x = new Counted(2);
        x.submit(0, Steps.MOVE, 0, 1, 30);
        x.submit(0, Steps.SWAP, 2, 3, 0);
        Steps.closeAndDecide(x, 0);
        for (int r = 0; r < 2; r++) {
            Steps.admitInAll(x, r, 2, 2);
        }
        x.look(0, 0, 0);
        x.look(1, 0, 0);
        x.close(1);
        x.look(0, 0, 0);
        x.look(1, 0, 0);
        x.deliver(2);
        x.resend(0, 0);
        x.look(0, 1, 0);
        return x;
    }

    // A replica's CRASH: "all its VALUES under way are gone"
    private static void replicaCrashWithValuesUnderWay() {
        int[] all = {4000001, 4100001, 1100010, 1100020, 4001001, 4101001, 2100000, 3000000, 3000010, 4000010};
        int[] without0 = {4100001, 1100010, 1100020, 4101001, 2100000, 3000000, 3000010};
        int[] without1 = {4000001, 1100010, 1100020, 4001001, 2100000, 3000000, 3000010, 4000010};
        messagesAre("before", valuesUnderWay(), all);
        messagesAre("after the crash of replica 0", crashed(valuesUnderWay(), 5), without0);
        messagesAre("after the crash of replica 1", crashed(valuesUnderWay(), 6), without1);
        messagesAre("after both", crashed(valuesUnderWay(), 5, 6), 1100010, 1100020, 2100000, 3000000, 3000010);
        for (int node = 0; node < Steps.REPLICA; node++) {
            messagesAre("after the crash of " + node, crashed(valuesUnderWay(), node), all);
        }
        Counted x = crashed(valuesUnderWay(), 5);
        Steps.deliverAt(x, 3, 1);
        due.is("the VALUES of the other replica arrive", x.look(1, 1, 1), 1);
        due.is("finished(1, 1)", x.finished(1, 1), 1);
        due.is("its own VALUES", x.message(6), 4101010);
        due.is("those of replica 0 do not come back", restarted(x, 5).messages(), 7);
    }

    private static void messagesAre(String when, Counted x, int... codes) {
        due.is("messages() " + when, x.messages(), codes.length);
        for (int i = 0; i < codes.length; i++) {
            due.is("message(" + i + ") " + when, x.message(i), codes[i]);
        }
    }

    private static void replicaCrashWithoutValuesUnderWay() {
        Counted x = new Counted(2);
        x.close(0);
        x.crash(5);
        messagesAre("without VALUES", x, 1000000, 1000010, 1000020);
        Counted y = crashed(Scenes.fresh(), 6);
        due.is("with no messages", y.messages(), 0);
    }

    /** A VALUES of replica 0, then STOREs of incarnation 1 and of incarnation 2. */
    private static Counted valuesBeforeStores() {
        Counted x = new Counted(2);
        x.submit(0, Steps.MOVE, 0, 1, 30);
        Steps.closeAndDecide(x, 0);
        x.admit(0, 0);
        x.look(0, 0, 0);
        restarted(crashed(x, SEQUENCER_1), SEQUENCER_1);
        x.close(0);
        x.close(1);
        return x;
    }

    private static void messagesThatStayKeepTheirIncarnation() {
        Counted x = crashed(valuesBeforeStores(), 5);
        Steps.deliver(x, 6);
        for (int l = 0; l < 3; l++) {
            due.is("incarnation 1 on " + l, x.stored(l, 0, 1), 2);
            due.is("incarnation 2 on " + l, x.stored(l, 1, 0), 4);
        }
        Steps.deliverAll(x);
        due.is("its slot is decided", x.resend(1, 0), 2);
    }

    // "its values, what is admitted, locks, values received .. are gone"
    private static void replicaCrashWithValuesReceived() {
        Counted x = valuesUnderWay();
        due.is("VALUES for partition 1", x.deliver(0), true);
        due.is("the MOVE has finished there", x.value(0, 1), 130);
        x.crash(5);
        due.is("value while down", x.value(0, 1), 0);
        due.is("locks while down", x.locks(0, 0), -1);
        x.restart(5);
        due.is("value(0, 1)", x.value(0, 1), 100);
        for (int k = 0; k < 4; k++) {
            due.is("locks(0, " + k + ")", x.locks(0, k), 0);
        }
        for (int p = 0; p < 2; p++) {
            due.is("admitted(0, " + p + ")", x.admitted(0, p), 0);
            due.is("finished(0, " + p + ")", x.finished(0, p), 0);
            due.is("ready(0, " + p + ")", x.ready(0, p), 0);
        }
        due.is("admit(0, 1)", x.admit(0, 1), 0);
        due.is("look(0, 1, 0)", x.look(0, 1, 0), 0);
        due.is("the values received are gone", x.finished(0, 1), 0);
        due.is("the other replica has lost nothing", x.admitted(1, 0), 2);
    }

    // "REPLICAS 0 and 1 keep over a crash which slots they KNOW"
    private static void replicaKeepsWhatItKnows() {
        Counted x = crashed(valuesUnderWay(), 5);
        due.is("logged(0, 1) of one that is down", x.logged(0, 1), 1);
        x.restart(5);
        due.is("logged(0, 1)", x.logged(0, 1), 1);
        due.is("logged(0, 2)", x.logged(0, 2), -1);
    }

    // "values are those of the checkpoint, and nothing behind it is admitted": of none, one and two transactions
    private static void replicaBeginsBehindItsCheckpoint() {
        for (int held = 0; held <= 2; held++) {
            Counted x = new Counted(1);
            Steps.submitAdds(x, 0, 5, 3);
            Steps.closeAndDecide(x, 0);
            for (int i = 0; i < 3; i++) {
                if (i == held && held > 0) {
                    due.is("checkpoint(1)", x.checkpoint(1), held);
                }
                x.admit(1, 0);
                x.look(1, 0, 0);
            }
            due.is("value before", x.value(1, 5), 103);
            x.crash(6);
            x.restart(6);
            due.is("value after", x.value(1, 5), 100 + held);
            due.is("another value after", x.value(1, 4), 100);
            due.is("admitted after", x.admitted(1, 0), held);
            due.is("finished after", x.finished(1, 0), held);
            due.is("the next", x.admit(1, 0), held);
        }
    }
}
