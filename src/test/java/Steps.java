/** Runs of calls that many tests begin with. */
final class Steps {
    static final int MOVE = 0;
    static final int SUM = 1;
    static final int SET = 2;
    static final int SWAP = 3;
    static final int ADD = 4;
    static final int TOP = 5;
    static final int NONE = SequencedBatches.NONE;

    /** The numbers of the nodes in crash and restart. */
    static final int SEQUENCER = 3;
    static final int REPLICA = 5;

    private Steps() {
    }

    /** Submits transactions that add 1 to the key. */
    static void submitAdds(Counted x, int s, int key, int times) {
        for (int i = 0; i < times; i++) {
            x.submit(s, ADD, key, 0, 1);
        }
    }

    static void deliver(Counted x, int times) {
        for (int i = 0; i < times; i++) {
            x.deliver(0);
        }
    }

    static void deliverAt(Counted x, int i, int times) {
        for (int j = 0; j < times; j++) {
            x.deliver(i);
        }
    }

    static void deliverAll(Counted x) {
        for (int i = 0; i < 400 && x.deliver(0); i++) {
        }
    }

    static void drop(Counted x, int times) {
        for (int i = 0; i < times; i++) {
            x.drop(0);
        }
    }

    static void dropAll(Counted x) {
        for (int i = 0; i < 400 && x.drop(0); i++) {
        }
    }

    /** Sequencer s closes its batch, and every replica that is up learns of it. */
    static void closeAndDecide(Counted x, int s) {
        x.close(s);
        deliverAll(x);
    }

    static void admit(Counted x, int r, int p, int times) {
        for (int i = 0; i < times; i++) {
            x.admit(r, p);
        }
    }

    static void admitInAll(Counted x, int r, int partitions, int times) {
        for (int p = 0; p < partitions; p++) {
            admit(x, r, p, times);
        }
    }

    /** Sends until more than 48 messages are under way: 51, all of them STOREs of slot (0, s). */
    static void crowd(Counted x, int s) {
        x.close(s);
        for (int i = 0; i < 16; i++) {
            x.resend(s, 0);
        }
    }

    /** Resends the decided slot (0, 0) until just 49 or 50 messages are under way. */
    static void crowdWithClosed(Counted x) {
        for (int i = 0; i < 30 && x.resend(0, 0) != NONE; i++) {
        }
    }
}
