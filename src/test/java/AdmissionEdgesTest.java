/** The edges of promise 11, and of what the terms say of admission and locks. */
public final class AdmissionEdgesTest {
    private static final Due due = new Due("AdmissionEdgesTest");
    private static final Twins twins = new Twins(due);
    private static final int[] NO_REPLICAS = {Integer.MIN_VALUE, -1, 2, 3, Integer.MAX_VALUE};

    public static void main(String[] args) {
        admitInNoReplica();
        admitInNoPartition();
        admitInAReplicaThatIsDown();
        admitWithNoMoreInTheLog();
        admitWithAnEmptyLog();
        tenMayBeUnfinished();
        tenStopOneInWhichItTakesNoPart();
        tenAreCountedForEachPartition();
        thoseThatHaveLookedAreCounted();
        thoseThatAreFinishedAreNotCounted();
        tenAreForgottenInACrash();
        whoTakesNoPartHasFinishedAtOnce();
        keysBelongToPartitions();
        locksOfEachKind();
        sharedAndExclusiveLocks();
        locksOfEachKindAreSharedOrExclusive();
        allLocksMustBeGranted();
        locksOfThoseThatHaveLookedStay();
        due.end();
    }

    // "Refused with NONE when there is no such replica"
    private static void admitInNoReplica() {
        for (int r : NO_REPLICAS) {
            twins.none("admit(" + r + ", 0)", Scenes::busy, x -> x.admit(r, 0));
        }
        due.is("admit(0, 1)", Scenes.busy().admit(0, 1), 3);
        due.is("admit(1, 0)", Scenes.busy().admit(1, 0), 0);
    }

    // "or partition": for each number of partitions
    private static void admitInNoPartition() {
        for (int partitions = 1; partitions <= 4; partitions++) {
            int count = partitions;
            int[] none = {Integer.MIN_VALUE, -1, count, count + 1, 5, Integer.MAX_VALUE};
            for (int p : none) {
                twins.none("admit(0, " + p + ") of " + count, () -> oneInTheLog(count), x -> x.admit(0, p));
            }
            for (int p = 0; p < count; p++) {
                due.is("admit(1, " + p + ") of " + count, oneInTheLog(count).admit(1, p), 0);
            }
        }
    }

    private static Counted oneInTheLog(int partitions) {
        Counted x = new Counted(partitions);
        x.submit(0, Steps.ADD, 0, 0, 1);
        Steps.closeAndDecide(x, 0);
        return x;
    }

    // "the replica is down"
    private static void admitInAReplicaThatIsDown() {
        for (int r = 0; r < 2; r++) {
            int down = r;
            twins.none("admit(" + r + ", 0) of one that is down", () -> replicaDown(down), x -> x.admit(down, 0));
            due.is("admit in the other", replicaDown(r).admit(1 - r, 0), 0);
            Counted x = replicaDown(r);
            x.restart(Steps.REPLICA + r);
            due.is("admit when it is up again", x.admit(r, 0), 0);
        }
    }

    private static Counted replicaDown(int r) {
        Counted x = oneInTheLog(2);
        x.crash(Steps.REPLICA + r);
        return x;
    }

    // "its log has no more": the last, and none behind it
    private static void admitWithNoMoreInTheLog() {
        Counted x = Scenes.busy();
        due.is("the last but one", x.admit(0, 1), 3);
        due.is("the last", x.admit(0, 1), 4);
        due.is("none behind the last", x.admit(0, 1), -1);
        twins.none("admit with no more", Scenes::busy, y -> y.admit(0, 0));
    }

    // "up to the first slot that it does not know"
    private static void admitWithAnEmptyLog() {
        twins.none("admit of a new object", Scenes::fresh, x -> x.admit(0, 0));
        twins.none("admit with (0, 0) unknown", AdmissionEdgesTest::onlyTheSecondSlotIsKnown, x -> x.admit(0, 0));
        Counted x = onlyTheSecondSlotIsKnown();
        Steps.closeAndDecide(x, 0);
        due.is("admit with both known", x.admit(0, 0), 0);
    }

    private static Counted onlyTheSecondSlotIsKnown() {
        Counted x = new Counted(2);
        x.submit(1, Steps.ADD, 0, 0, 1);
        Steps.closeAndDecide(x, 1);
        return x;
    }

    // "ten transactions that partition p has admitted are not finished there": eight, nine and ten
    private static void tenMayBeUnfinished() {
        due.is("with eight", Scenes.unfinished(8).admit(0, 0), 8);
        due.is("with nine", Scenes.unfinished(9).admit(0, 0), 9);
        twins.none("with ten", () -> Scenes.unfinished(10), x -> x.admit(0, 0));
    }

    // The same when it is one in which the partition takes no part
    private static void tenStopOneInWhichItTakesNoPart() {
        due.is("with nine", tenAndOneElsewhere(9).admit(0, 0), 9);
        twins.none("one that takes no part, with ten", () -> tenAndOneElsewhere(10), x -> x.admit(0, 0));
        Counted x = tenAndOneElsewhere(10);
        x.look(0, 0, 0);
        due.is("one that takes no part, with nine", x.admit(0, 0), 10);
        due.is("finished(0, 0)", x.finished(0, 0), 2);
    }

    /** The log is ten ADDs of key 0 and one of key 1; partition 0 of replica 0 has admitted so many. */
    private static Counted tenAndOneElsewhere(int count) {
        Counted x = new Counted(2);
        Steps.submitAdds(x, 0, 0, 6);
        Steps.submitAdds(x, 1, 0, 4);
        Steps.submitAdds(x, 1, 1, 1);
        Steps.closeAndDecide(x, 0);
        Steps.closeAndDecide(x, 1);
        Steps.admit(x, 0, 0, count);
        return x;
    }

    private static void tenAreCountedForEachPartition() {
        Counted x = Scenes.unfinished(10);
        for (int t = 0; t < 12; t++) {
            due.is("admit in the other partition", x.admit(0, 1), t);
        }
        for (int t = 0; t < 10; t++) {
            due.is("admit in the other replica", x.admit(1, 0), t);
        }
        due.is("ten in the other replica", x.admit(1, 0), -1);
    }

    /** Twelve MOVEs, each from partition 0 to 1, the last six with the keys of the first six. */
    private static Counted twelveMoves() {
        Counted x = new Counted(2);
        for (int i = 0; i < 12; i++) {
            x.submit(i / 6, Steps.MOVE, i % 6 * 2, i % 6 * 2 + 1, 1);
        }
        Steps.closeAndDecide(x, 0);
        Steps.closeAndDecide(x, 1);
        return x;
    }

    private static void thoseThatHaveLookedAreCounted() {
        twins.none("with ten of which six have looked", AdmissionEdgesTest::sixHaveLooked, x -> x.admit(0, 0));
        Counted x = sixHaveLooked();
        due.is("ready(0, 0)", x.ready(0, 0), 0);
        due.is("finished(0, 0)", x.finished(0, 0), 0);
        x.admit(0, 1);
        x.look(0, 1, 0);
        due.is("the VALUES for partition 0", x.message(6), 4000010);
        x.deliver(6);
        due.is("one has finished", x.finished(0, 0), 1);
        due.is("with nine", x.admit(0, 0), 10);
        due.is("with ten again", x.admit(0, 0), -1);
    }

    private static Counted sixHaveLooked() {
        Counted x = twelveMoves();
        Steps.admit(x, 0, 0, 10);
        for (int i = 0; i < 6; i++) {
            x.look(0, 0, 0);
        }
        return x;
    }

    private static void thoseThatAreFinishedAreNotCounted() {
        Counted x = Scenes.unfinished(10);
        for (int t = 10; t < 12; t++) {
            due.is("look", x.look(0, 0, 0), t - 10);
            due.is("with nine", x.admit(0, 0), t);
        }
        due.is("the log has no more", x.admit(0, 0), -1);
        due.is("admitted(0, 0)", x.admitted(0, 0), 12);
        due.is("finished(0, 0)", x.finished(0, 0), 2);
    }

    private static void tenAreForgottenInACrash() {
        Counted x = Scenes.unfinished(10);
        x.crash(Steps.REPLICA);
        x.restart(Steps.REPLICA);
        for (int t = 0; t < 10; t++) {
            due.is("admit after a restart", x.admit(0, 0), t);
        }
        due.is("ten after a restart", x.admit(0, 0), -1);
    }

    // "one in which it does not take part is FINISHED there at once": with four partitions
    private static void whoTakesNoPartHasFinishedAtOnce() {
        // kind, a, b, n, and the partitions that take part
        int[][] rows = {
            {Steps.MOVE, 1, 2, 3, 0b0110}, {Steps.MOVE, 1, 5, 3, 0b0010}, {Steps.SUM, 1, 2, 3, 0b1110},
            {Steps.SUM, 1, 1, 4, 0b0011}, {Steps.SUM, 1, 5, 9, 0b0010}, {Steps.SET, 1, 2, 3, 0b0010},
            {Steps.SWAP, 0, 11, 2, 0b1001}, {Steps.ADD, 1, 2, 3, 0b0010}, {Steps.TOP, 1, 2, 3, 0b0110},
            {Steps.TOP, 3, 3, 0, 0b1000},
        };
        for (int[] row : rows) {
            Counted x = new Counted(4);
            x.submit(0, row[0], row[1], row[2], row[3]);
            Steps.closeAndDecide(x, 0);
            for (int p = 0; p < 4; p++) {
                int takesPart = row[4] >> p & 1;
                String name = "kind " + row[0] + " in partition " + p;
                due.is("admit, " + name, x.admit(0, p), 0);
                due.is("admitted, " + name, x.admitted(0, p), 1);
                due.is("finished, " + name, x.finished(0, p), 1 - takesPart);
                due.is("ready, " + name, x.ready(0, p), takesPart);
                due.is("look, " + name, x.look(0, p, 0), takesPart == 1 ? 0 : -1);
            }
        }
    }

    // "key k belongs to partition k mod P"
    private static void keysBelongToPartitions() {
        for (int partitions = 1; partitions <= 4; partitions++) {
            for (int k = 0; k < 12; k++) {
                Counted x = new Counted(partitions);
                x.submit(0, Steps.SET, k, 0, 7);
                Steps.closeAndDecide(x, 0);
                for (int p = 0; p < partitions; p++) {
                    x.admit(0, p);
                    due.is("key " + k + " in " + p + " of " + partitions, x.ready(0, p), k % partitions == p ? 1 : 0);
                }
                due.is("locks(0, " + k + ")", x.locks(0, k), 1);
                x.look(0, k % partitions, 0);
                due.is("value(0, " + k + ")", x.value(0, k), 7);
            }
        }
    }

    // "a LOCK on each key of that partition that the transaction reads or writes"
    private static void locksOfEachKind() {
        // kind, a, b, n, and the keys with a lock
        int[][] rows = {
            {Steps.MOVE, 0, 1, 2, 0b000000000011}, {Steps.SUM, 0, 1, 2, 0b000000000111},
            {Steps.SUM, 3, 3, 11, 0b100000001000}, {Steps.SET, 11, 1, 2, 0b100000000000},
            {Steps.SWAP, 0, 11, 2, 0b100000000001}, {Steps.ADD, 1, 0, 2, 0b000000000010},
            {Steps.TOP, 4, 5, 2, 0b000000110000}, {Steps.TOP, 6, 6, 2, 0b000001000000},
        };
        for (int[] row : rows) {
            for (int partitions = 1; partitions <= 4; partitions++) {
                Counted x = new Counted(partitions);
                x.submit(0, row[0], row[1], row[2], row[3]);
                Steps.closeAndDecide(x, 0);
                Steps.admitInAll(x, 0, partitions, 1);
                for (int k = 0; k < 12; k++) {
                    due.is("locks(0, " + k + ") of kind " + row[0], x.locks(0, k), row[4] >> k & 1);
                    due.is("locks(1, " + k + ") of kind " + row[0], x.locks(1, k), 0);
                }
            }
        }
    }

    /** Transactions for key 0, in their order: 's' reads it alone, 'x' writes it. */
    private static Counted onKeyZero(String locks) {
        Counted x = new Counted(1);
        for (int i = 0; i < locks.length(); i++) {
            if (locks.charAt(i) == 's') {
                x.submit(0, Steps.TOP, 0, i + 1, 0);
            } else {
                x.submit(0, Steps.SET, 0, 0, 7);
            }
        }
        Steps.closeAndDecide(x, 0);
        Steps.admit(x, 0, 0, locks.length());
        return x;
    }

    // "A lock is GRANTED when no transaction .. has a lock on the same key, other than SHARED where .. SHARED too"
    private static void sharedAndExclusiveLocks() {
        String[] orders = {"s", "x", "ss", "sx", "xs", "xx", "sss", "ssx", "sxs", "sxx", "xss", "xsx", "ssxs", "ssxss"};
        int[] ready = {1, 1, 2, 1, 1, 1, 3, 2, 1, 1, 1, 1, 2, 2};
        for (int i = 0; i < orders.length; i++) {
            Counted x = onKeyZero(orders[i]);
            due.is("ready of " + orders[i], x.ready(0, 0), ready[i]);
            due.is("locks of " + orders[i], x.locks(0, 0), orders[i].length());
            due.is("one that is not ready looks, of " + orders[i], x.look(0, 0, ready[i]), -1);
            due.is("the last that is ready looks, of " + orders[i], x.look(0, 0, ready[i] - 1), ready[i] - 1);
            due.is("it has no lock, of " + orders[i], x.locks(0, 0), orders[i].length() - 1);
        }
        Counted x = onKeyZero("ssxs");
        x.look(0, 0, 1);
        due.is("one shared lock is enough to wait", x.ready(0, 0), 1);
        x.look(0, 0, 0);
        due.is("the exclusive one", x.look(0, 0, 0), 2);
        due.is("the last", x.look(0, 0, 0), 3);
    }

    // "EXCLUSIVE if it writes it, else SHARED"
    private static void locksOfEachKindAreSharedOrExclusive() {
        // kind, key, and whether one that reads the key may go beside a transaction of that kind with keys 0, 1 and 2
        int[][] rows = {
            {Steps.MOVE, 0, 0}, {Steps.MOVE, 1, 0}, {Steps.MOVE, 2, 1}, {Steps.SUM, 0, 1}, {Steps.SUM, 1, 1},
            {Steps.SUM, 2, 0}, {Steps.SET, 0, 0}, {Steps.SET, 1, 1}, {Steps.SET, 2, 1}, {Steps.SWAP, 0, 0},
            {Steps.SWAP, 1, 0}, {Steps.SWAP, 2, 1}, {Steps.ADD, 0, 0}, {Steps.ADD, 1, 1}, {Steps.TOP, 0, 1},
            {Steps.TOP, 1, 0}, {Steps.TOP, 2, 1},
        };
        for (int[] row : rows) {
            Counted x = new Counted(1);
            x.submit(0, row[0], 0, 1, 2);
            x.submit(0, Steps.TOP, row[1], 11, 0);
            Steps.closeAndDecide(x, 0);
            Steps.admit(x, 0, 0, 2);
            due.is("a reader of " + row[1] + " beside kind " + row[0], x.ready(0, 0), 1 + row[2]);
        }
    }

    // READY "when all its locks there are granted": one of two is not
    private static void allLocksMustBeGranted() {
        for (int held = 0; held < 3; held++) {
            Counted x = new Counted(1);
            x.submit(0, Steps.SET, held, 0, 7);
            x.submit(0, Steps.SUM, 0, 1, 2);
            Steps.closeAndDecide(x, 0);
            Steps.admit(x, 0, 0, 2);
            due.is("ready with key " + held + " held", x.ready(0, 0), 1);
            due.is("look(0, 0, 1)", x.look(0, 0, 1), -1);
            due.is("look(0, 0, 0)", x.look(0, 0, 0), 0);
            due.is("ready with none held", x.ready(0, 0), 1);
            due.is("look(0, 0, 0)", x.look(0, 0, 0), 1);
        }
    }

    // "A finished transaction has no locks any more": one that has looked and is not finished has them
    private static void locksOfThoseThatHaveLookedStay() {
        Counted x = twelveMoves();
        Steps.admit(x, 0, 0, 7);
        Steps.admit(x, 0, 1, 7);
        due.is("locks(0, 0)", x.locks(0, 0), 2);
        x.look(0, 0, 0);
        due.is("locks(0, 0) when one has looked", x.locks(0, 0), 2);
        due.is("the other waits", x.ready(0, 0), 5);
        x.look(0, 1, 0);
        x.deliver(1);
        due.is("locks(0, 0) when one has finished", x.locks(0, 0), 1);
        due.is("locks(0, 1), not finished there", x.locks(0, 1), 2);
        due.is("the other is ready", x.ready(0, 0), 6);
        x.deliver(0);
        due.is("locks(0, 1), finished there too", x.locks(0, 1), 1);
    }
}
