/** States that tests begin from; each call makes a new object and brings it there. */
final class Scenes {
    private Scenes() {
    }

    static Counted fresh() {
        return new Counted(2);
    }

    /**
     * Something of everything: decided slots and others, acknowledged by one log node and by none;
     * messages of all four kinds; open batches; a second incarnation; transactions that are finished,
     * wait for values, for locks or to look; values that came early; a checkpoint; log node 2 is down.
     */
    static Counted busy() {
        Counted x = new Counted(2);
        x.submit(0, Steps.ADD, 0, 0, 5);
        x.submit(0, Steps.MOVE, 0, 1, 10);
        x.submit(0, Steps.SWAP, 2, 3, 0);
        x.submit(1, Steps.SUM, 0, 1, 2);
        x.submit(1, Steps.TOP, 1, 4, 0);
        Steps.closeAndDecide(x, 0);
        Steps.closeAndDecide(x, 1);
        execute(x);
        x.crash(4);
        x.restart(4);
        x.submit(1, Steps.SET, 5, 0, 1);
        x.close(1);
        x.submit(0, Steps.ADD, 6, 0, -1);
        x.close(0);
        // Behind one VALUES: the slot of sequencer 1 has an ACK under way, that of sequencer 0 has one arrived.
        x.deliver(1);
        x.deliver(3);
        x.deliver(6);
        x.resend(0, 0);
        x.submit(0, Steps.SET, 7, 0, 70);
        x.submit(0, Steps.SET, 8, 0, 80);
        x.submit(1, Steps.SET, 9, 0, 90);
        x.crash(2);
        return x;
    }

    private static void execute(Counted x) {
        Steps.admitInAll(x, 0, 2, 1);
        x.look(0, 0, 0);
        x.checkpoint(0);
        Steps.admit(x, 0, 0, 4);
        Steps.admit(x, 0, 1, 2);
        x.look(0, 0, 0);
        x.look(0, 0, 0);
        x.deliver(0);
        Steps.admit(x, 1, 1, 2);
    }

    /** As busy, and then every node goes down. */
    static Counted allDown() {
        Counted x = busy();
        for (int node = 0; node <= 6; node++) {
            x.crash(node);
        }
        return x;
    }

    /**
     * Just so many messages are under way, 47 to 50: STOREs of the slot (0, 1) and CLOSEDs of (0, 0).
     * In replica 0 two transactions are ready in partition 0; only the first would send VALUES.
     */
    static Counted underWay(int messages) {
        Counted x = new Counted(2);
        x.submit(0, Steps.MOVE, 0, 1, 30);
        x.submit(0, Steps.ADD, 2, 0, 4);
        Steps.closeAndDecide(x, 0);
        Steps.admitInAll(x, 0, 2, 2);
        x.close(1);
        fill(x, messages);
        return x;
    }

    /** Resends the decided slot (0, 0) until so many messages, 47 to 50, are under way. */
    static void fill(Counted x, int messages) {
        int first = Math.min(messages, 48);
        fillOver(x, first);
        if (messages > first) {
            x.resend(0, 0);
        }
        takeOffDownTo(x, messages);
    }

    private static void fillOver(Counted x, int messages) {
        while (x.messages() < messages && x.resend(0, 0) != Steps.NONE) {
        }
        takeOffDownTo(x, messages);
    }

    private static void takeOffDownTo(Counted x, int messages) {
        for (int more = x.messages() - messages; more > 0; more--) {
            x.drop(x.messages() - 1);
        }
    }

    /** Sequencer 0 has so many slots, all decided, and no messages are under way. */
    static Counted decidedSlots(int slots) {
        Counted x = new Counted(2);
        for (int e = 0; e < slots; e++) {
            x.close(0);
            Steps.deliver(x, 8);
        }
        return x;
    }

    /** So many transactions, 96 to 100: the first 96 were in open batches of sequencer 0 when it crashed. */
    static Counted transactions(int count) {
        Counted x = new Counted(4);
        for (int round = 0; round < 16; round++) {
            Steps.submitAdds(x, 0, 0, 6);
            x.crash(Steps.SEQUENCER);
            x.restart(Steps.SEQUENCER);
        }
        Steps.submitAdds(x, 0, 0, count - 96);
        return x;
    }

    /** Of twelve ADDs of key 0 in the log, partition 0 of replica 0 has admitted so many. */
    static Counted unfinished(int count) {
        Counted x = new Counted(2);
        Steps.submitAdds(x, 0, 0, 6);
        Steps.submitAdds(x, 1, 0, 6);
        Steps.closeAndDecide(x, 0);
        Steps.closeAndDecide(x, 1);
        Steps.admit(x, 0, 0, count);
        return x;
    }
}
