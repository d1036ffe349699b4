/** Promises 11, 12, 14, 17, 18, 19 and 20: admission, locks, looking and values. */
public final class ExecutionTest {
    private static final Due due = new Due("ExecutionTest");

    public static void main(String[] args) {
        admitGoesAlongTheLog();
        admitIsRefused();
        tenUnfinishedAreTheMost();
        tenUnfinishedStopEveryAdmission();
        whoTakesNoPartHasFinished();
        sharedLocksGoTogether();
        exclusiveLocksWait();
        locksAreOfOnePartition();
        lookTakesTheReadyOnes();
        lookIsRefused();
        lookIsRefusedWhenCrowded();
        lookSendsToActivePartitions();
        lookWithNothingReadSendsNothing();
        valuesMayComeFirst();
        valuesMayComeBeforeAdmission();
        valuesAreThoseOfTheLook();
        valuesReadAreNotReadAgain(0, 1);
        valuesReadAreNotReadAgain(1, 0);
        eachKindWorks();
        wrongQueries();
        due.end();
    }

    private static void admitGoesAlongTheLog() {
        Counted x = new Counted(2);
        x.submit(1, Steps.SET, 0, 0, 1);
        x.submit(0, Steps.SET, 0, 0, 2);
        Steps.closeAndDecide(x, 0);
        due.is("admit(0, 0)", x.admit(0, 0), 1);
        due.is("the log has no more", x.admit(0, 0), -1);
        Steps.closeAndDecide(x, 1);
        due.is("it has one more", x.admit(0, 0), 0);
        due.is("admitted(0, 0)", x.admitted(0, 0), 2);
        due.is("the other partition", x.admitted(0, 1), 0);
        due.is("the other replica", x.admitted(1, 0), 0);
        due.is("admit(0, 1)", x.admit(0, 1), 1);
    }

    private static void admitIsRefused() {
        Counted x = new Counted(2);
        x.submit(0, Steps.SET, 0, 0, 2);
        Steps.closeAndDecide(x, 0);
        due.is("admit(-1, 0)", x.admit(-1, 0), -1);
        due.is("admit(2, 0)", x.admit(2, 0), -1);
        due.is("admit(0, -1)", x.admit(0, -1), -1);
        due.is("admit(0, 2)", x.admit(0, 2), -1);
        due.is("admit(0, MAX)", x.admit(0, Integer.MAX_VALUE), -1);
        x.crash(Steps.REPLICA);
        due.is("down", x.admit(0, 0), -1);
        x.restart(Steps.REPLICA);
        due.is("admitted(0, 0)", x.admitted(0, 0), 0);
    }

    private static void tenUnfinishedAreTheMost() {
        Counted x = new Counted(2);
        for (int i = 0; i < 6; i++) {
            x.submit(0, Steps.ADD, 0, 0, 1);
            x.submit(1, Steps.ADD, 2, 0, 1);
        }
        x.close(0);
        Steps.closeAndDecide(x, 1);
        Steps.admit(x, 0, 0, 9);
        due.is("the tenth", x.admit(0, 0), 7);
        due.is("the eleventh", x.admit(0, 0), -1);
        due.is("admitted(0, 0)", x.admitted(0, 0), 10);
        due.is("locks(0, 0)", x.locks(0, 0), 6);
        due.is("locks(0, 2)", x.locks(0, 2), 4);
        for (int i = 0; i < 12; i++) {
            due.is("who takes no part has no bound", x.admit(0, 1) != -1, true);
        }
        due.is("finished(0, 1)", x.finished(0, 1), 12);
        x.look(0, 0, 0);
        due.is("room for one", x.admit(0, 0), 9);
        due.is("and not for two", x.admit(0, 0), -1);
    }

    private static void tenUnfinishedStopEveryAdmission() {
        Counted x = new Counted(2);
        for (int i = 0; i < 6; i++) {
            x.submit(0, Steps.ADD, 0, 0, 1);
            x.submit(1, Steps.ADD, i < 4 ? 2 : 1, 0, 1);
        }
        x.close(0);
        Steps.closeAndDecide(x, 1);
        Steps.admit(x, 1, 0, 10);
        due.is("the next takes no part here", x.logged(1, 10), 9);
        due.is("it is refused all the same", x.admit(1, 0), -1);
        x.look(1, 0, 0);
        due.is("nine are not finished", x.admit(1, 0), 9);
        due.is("nor are there more", x.admit(1, 0), 11);
        due.is("finished(1, 0)", x.finished(1, 0), 3);
    }

    private static void whoTakesNoPartHasFinished() {
        Counted x = new Counted(3);
        x.submit(0, Steps.TOP, 0, 1, 0);
        x.submit(0, Steps.SET, 1, 2, 0);
        Steps.closeAndDecide(x, 0);
        Steps.admitInAll(x, 0, 3, 2);
        due.is("finished(0, 0)", x.finished(0, 0), 1);
        due.is("finished(0, 1)", x.finished(0, 1), 0);
        due.is("finished(0, 2)", x.finished(0, 2), 2);
        due.is("ready(0, 2)", x.ready(0, 2), 0);
        due.is("b of a SET is not locked", x.locks(0, 2), 0);
        due.is("who only reads finishes by looking", x.look(0, 0, 0), 0);
        due.is("finished(0, 0)", x.finished(0, 0), 2);
        due.is("finished(0, 1)", x.finished(0, 1), 0);
        due.is("locks(0, 0)", x.locks(0, 0), 0);
    }

    private static void sharedLocksGoTogether() {
        Counted x = new Counted(1);
        x.submit(0, Steps.TOP, 0, 1, 0);
        x.submit(0, Steps.SUM, 0, 0, 2);
        x.submit(0, Steps.ADD, 0, 0, 1);
        x.submit(0, Steps.TOP, 0, 3, 0);
        Steps.closeAndDecide(x, 0);
        Steps.admit(x, 1, 0, 4);
        due.is("two read, the third writes, the fourth waits for it", x.ready(1, 0), 2);
        due.is("locks(1, 0)", x.locks(1, 0), 4);
        due.is("the second looks", x.look(1, 0, 1), 1);
        due.is("ready(1, 0)", x.ready(1, 0), 1);
        due.is("the first looks", x.look(1, 0, 0), 0);
        due.is("the third is ready", x.ready(1, 0), 1);
        due.is("the third looks", x.look(1, 0, 0), 2);
        due.is("the fourth looks", x.look(1, 0, 0), 3);
        due.is("value(1, 2)", x.value(1, 2), 200);
        due.is("value(1, 3)", x.value(1, 3), 101);
        due.is("value(1, 1)", x.value(1, 1), 100);
    }

    private static void exclusiveLocksWait() {
        Counted x = new Counted(2);
        x.submit(0, Steps.MOVE, 0, 1, 10);
        x.submit(0, Steps.TOP, 1, 3, 0);
        x.submit(0, Steps.SET, 5, 0, 0);
        x.submit(0, Steps.SET, 1, 0, 0);
        Steps.closeAndDecide(x, 0);
        Steps.admit(x, 0, 1, 4);
        due.is("ready(0, 1)", x.ready(0, 1), 2);
        due.is("the first looks", x.look(0, 1, 0), 0);
        due.is("it has looked but not finished", x.ready(0, 1), 1);
        due.is("its lock stays", x.locks(0, 1), 3);
        due.is("the one that is free looks", x.look(0, 1, 0), 2);
        due.is("no other", x.look(0, 1, 0), -1);
        x.admit(0, 0);
        x.look(0, 0, 0);
        x.deliver(1);
        due.is("the first has finished", x.finished(0, 1), 2);
        due.is("locks(0, 1)", x.locks(0, 1), 2);
        due.is("ready(0, 1)", x.ready(0, 1), 1);
        due.is("the reader looks", x.look(0, 1, 0), 1);
        due.is("value(0, 3)", x.value(0, 3), 110);
        due.is("the writer looks", x.look(0, 1, 0), 3);
        due.is("value(0, 1)", x.value(0, 1), 0);
    }

    private static void locksAreOfOnePartition() {
        Counted x = new Counted(2);
        x.submit(0, Steps.SWAP, 0, 1, 0);
        x.submit(0, Steps.SWAP, 1, 2, 0);
        Steps.closeAndDecide(x, 0);
        Steps.admitInAll(x, 0, 2, 2);
        due.is("both in partition 0, with keys of their own", x.ready(0, 0), 2);
        due.is("one in partition 1", x.ready(0, 1), 1);
        due.is("locks(0, 0)", x.locks(0, 0), 1);
        due.is("locks(0, 1)", x.locks(0, 1), 2);
        due.is("locks(0, 2)", x.locks(0, 2), 1);
        due.is("locks(0, 3)", x.locks(0, 3), 0);
        due.is("locks(1, 1)", x.locks(1, 1), 0);
    }

    private static void lookTakesTheReadyOnes() {
        Counted x = new Counted(1);
        x.submit(0, Steps.ADD, 0, 0, 1);
        x.submit(0, Steps.ADD, 0, 0, 2);
        x.submit(0, Steps.ADD, 1, 0, 3);
        Steps.closeAndDecide(x, 0);
        Steps.admit(x, 0, 0, 3);
        due.is("look(0, 0, 2)", x.look(0, 0, 2), -1);
        due.is("look(0, 0, 1)", x.look(0, 0, 1), 2);
        due.is("value(0, 1)", x.value(0, 1), 103);
        due.is("look(0, 0, 0)", x.look(0, 0, 0), 0);
        due.is("look(0, 0, 0)", x.look(0, 0, 0), 1);
        due.is("value(0, 0)", x.value(0, 0), 103);
        due.is("finished(0, 0)", x.finished(0, 0), 3);
        due.is("the other replica", x.value(1, 0), 100);
    }

    private static void lookIsRefused() {
        Counted x = new Counted(2);
        x.submit(0, Steps.ADD, 0, 0, 1);
        Steps.closeAndDecide(x, 0);
        x.admit(0, 0);
        due.is("look(-1, 0, 0)", x.look(-1, 0, 0), -1);
        due.is("look(2, 0, 0)", x.look(2, 0, 0), -1);
        due.is("look(0, -1, 0)", x.look(0, -1, 0), -1);
        due.is("look(0, 2, 0)", x.look(0, 2, 0), -1);
        due.is("look(0, 0, -1)", x.look(0, 0, -1), -1);
        due.is("look(0, 0, 1)", x.look(0, 0, 1), -1);
        due.is("look(0, 0, MAX)", x.look(0, 0, Integer.MAX_VALUE), -1);
        due.is("look(0, 1, 0)", x.look(0, 1, 0), -1);
        due.is("look(1, 0, 0)", x.look(1, 0, 0), -1);
        due.is("ready(0, 0)", x.ready(0, 0), 1);
        x.crash(Steps.REPLICA);
        due.is("down", x.look(0, 0, 0), -1);
    }

    private static void lookIsRefusedWhenCrowded() {
        Counted x = new Counted(2);
        x.submit(0, Steps.ADD, 0, 0, 1);
        x.submit(0, Steps.ADD, 2, 0, 1);
        Steps.closeAndDecide(x, 0);
        Steps.admit(x, 0, 0, 2);
        Steps.crowdWithClosed(x);
        x.drop(0);
        due.is("messages()", x.messages(), 49);
        due.is("49 are under way, though it would send nothing", x.look(0, 0, 0), -1);
        due.is("value(0, 0)", x.value(0, 0), 100);
        x.drop(0);
        due.is("48 are under way", x.look(0, 0, 0), 0);
    }

    private static void lookSendsToActivePartitions() {
        Counted x = new Counted(4);
        x.submit(0, Steps.SUM, 2, 1, 3);
        x.submit(0, Steps.SWAP, 4, 7, 0);
        x.submit(1, Steps.TOP, 5, 8, 0);
        x.close(0);
        Steps.closeAndDecide(x, 1);
        Steps.admitInAll(x, 1, 4, 3);
        due.is("finished(1, 0)", x.finished(1, 0), 1);
        due.is("SUM: partition 1", x.look(1, 1, 0), 0);
        due.is("SUM: partition 2", x.look(1, 2, 0), 0);
        due.is("SUM: partition 3 reads nothing", x.look(1, 3, 0), 0);
        due.is("messages()", x.messages(), 2);
        due.is("message(0)", x.message(0), 4100013);
        due.is("message(1)", x.message(1), 4100023);
        due.is("SUM: partition 3 waits, in TOP it takes no part", x.finished(1, 3), 1);
        x.deliver(0);
        due.is("for both", x.value(1, 3), 100);
        x.deliver(0);
        due.is("value(1, 3)", x.value(1, 3), 200);
        x.look(1, 0, 0);
        x.look(1, 3, 0);
        due.is("SWAP: message(0)", x.message(0), 4101003);
        due.is("SWAP: message(1)", x.message(1), 4101030);
        Steps.deliverAll(x);
        due.is("TOP: partition 0 reads and writes b", x.look(1, 0, 0), 2);
        due.is("it tells nobody", x.messages(), 0);
        due.is("TOP: partition 1", x.look(1, 1, 0), 2);
        due.is("TOP: message(0)", x.message(0), 4102010);
        x.deliver(0);
        due.is("checkpoint(1)", x.checkpoint(1), 3);
    }

    private static void lookWithNothingReadSendsNothing() {
        Counted x = new Counted(4);
        x.submit(0, Steps.SET, 6, 0, -3);
        Steps.closeAndDecide(x, 0);
        x.admit(0, 2);
        due.is("look(0, 2, 0)", x.look(0, 2, 0), 0);
        due.is("messages()", x.messages(), 0);
        due.is("value(0, 6)", x.value(0, 6), -3);
        due.is("finished(0, 2)", x.finished(0, 2), 1);
    }

    private static void valuesMayComeFirst() {
        Counted x = new Counted(2);
        x.submit(0, Steps.TOP, 0, 1, 0);
        Steps.closeAndDecide(x, 0);
        Steps.admitInAll(x, 0, 2, 1);
        x.look(0, 0, 0);
        x.deliver(0);
        due.is("it has not looked", x.finished(0, 1), 0);
        due.is("ready(0, 1)", x.ready(0, 1), 1);
        x.look(0, 1, 0);
        due.is("finished(0, 1)", x.finished(0, 1), 1);
    }

    private static void valuesMayComeBeforeAdmission() {
        Counted x = new Counted(2);
        x.submit(0, Steps.MOVE, 0, 1, 40);
        Steps.closeAndDecide(x, 0);
        x.admit(0, 0);
        x.look(0, 0, 0);
        x.deliver(0);
        due.is("admit(0, 1)", x.admit(0, 1), 0);
        due.is("look(0, 1, 0)", x.look(0, 1, 0), 0);
        due.is("value(0, 1)", x.value(0, 1), 140);
        due.is("value(0, 0)", x.value(0, 0), 100);
        x.deliver(0);
        due.is("value(0, 0)", x.value(0, 0), 60);
    }

    private static void valuesAreThoseOfTheLook() {
        Counted x = new Counted(2);
        x.submit(0, Steps.TOP, 0, 1, 0);
        x.submit(0, Steps.SET, 0, 0, 900);
        Steps.closeAndDecide(x, 0);
        Steps.admitInAll(x, 0, 2, 2);
        x.look(0, 0, 0);
        due.is("the reader has let go", x.look(0, 0, 0), 1);
        due.is("value(0, 0)", x.value(0, 0), 900);
        x.look(0, 1, 0);
        x.deliver(0);
        due.is("value(0, 1)", x.value(0, 1), 100);
    }

    private static void valuesReadAreNotReadAgain(int a, int b) {
        Counted x = new Counted(3);
        x.submit(0, Steps.SUM, a, b, 2);
        x.submit(0, Steps.SET, 1, 0, 900);
        Steps.closeAndDecide(x, 0);
        Steps.admitInAll(x, 0, 3, 2);
        x.look(0, 1, 0);
        due.is("key 1 is read and let go", x.look(0, 1, 0), 1);
        due.is("key 0 is read after key 1 has changed", x.look(0, 0, 0), 0);
        x.look(0, 2, 0);
        Steps.deliverAll(x);
        due.is("value(0, 2)", x.value(0, 2), 200);
    }

    private static void eachKindWorks() {
        int max = Integer.MAX_VALUE;
        int min = Integer.MIN_VALUE;
        // kind, a, b, n, values of 0 and 1 before, key asked, value due
        int[][] rows = {
            {Steps.MOVE, 0, 1, 30, 100, 100, 0, 70}, {Steps.MOVE, 0, 1, 30, 100, 100, 1, 130},
            {Steps.MOVE, 0, 1, 30, 30, 1, 0, 0}, {Steps.MOVE, 0, 1, 30, 30, 1, 1, 31},
            {Steps.MOVE, 0, 1, 30, 29, 1, 0, 29}, {Steps.MOVE, 0, 1, 30, 29, 1, 1, 1},
            {Steps.MOVE, 1, 0, 5, 9, 6, 0, 14}, {Steps.MOVE, 1, 0, 5, 9, 6, 1, 1},
            {Steps.MOVE, 0, 1, 0, -1, 5, 0, -1}, {Steps.MOVE, 0, 1, 0, -1, 5, 1, 5},
            {Steps.MOVE, 0, 1, max, max, 1, 0, 0}, {Steps.MOVE, 0, 1, max, max, 1, 1, min},
            {Steps.SUM, 0, 1, 2, 3, 4, 2, 7}, {Steps.SUM, 0, 0, 2, 3, 4, 2, 6}, {Steps.SUM, 0, 1, 3, max, 1, 3, min},
            {Steps.SUM, 0, 1, 2, 3, 4, 0, 3}, {Steps.SUM, 0, 1, 2, 3, 4, 1, 4},
            {Steps.SET, 0, 1, 5, 1, 2, 0, 5}, {Steps.SET, 0, 1, 5, 1, 2, 1, 2}, {Steps.SET, 1, -9, min, 1, 2, 1, min},
            {Steps.SWAP, 0, 1, 9, 1, 2, 0, 2}, {Steps.SWAP, 0, 1, 9, 1, 2, 1, 1}, {Steps.SWAP, 1, 0, 9, 1, 2, 1, 1},
            {Steps.ADD, 0, 1, 5, 1, 2, 0, 6}, {Steps.ADD, 0, 1, 5, 1, 2, 1, 2}, {Steps.ADD, 1, 77, 1, 1, max, 1, min},
            {Steps.ADD, 0, 0, -5, 1, 2, 0, -4},
            {Steps.TOP, 0, 1, 0, 5, 4, 1, 5}, {Steps.TOP, 0, 1, 0, 4, 5, 1, 5}, {Steps.TOP, 0, 1, 0, 5, 4, 0, 5},
            {Steps.TOP, 0, 1, 0, max, min, 1, max}, {Steps.TOP, 1, 1, 0, 5, 4, 1, 4}, {Steps.TOP, 1, 0, 9, 5, 4, 0, 5},
            {Steps.TOP, 0, 1, 0, 4, 5, 0, 4},
        };
        for (int[] row : rows) {
            for (int partitions = 1; partitions <= 4; partitions++) {
                String call = java.util.Arrays.toString(row) + " in " + partitions;
                due.is(call, valueAfter(row, partitions), row[7]);
            }
        }
    }

    private static int valueAfter(int[] row, int partitions) {
        Counted x = new Counted(partitions);
        x.submit(0, Steps.SET, 0, 0, row[4]);
        x.submit(0, Steps.SET, 1, 0, row[5]);
        x.submit(0, row[0], row[1], row[2], row[3]);
        Steps.closeAndDecide(x, 0);
        Steps.admitInAll(x, 1, partitions, 3);
        for (int i = 0; i < 3; i++) {
            for (int p = 0; p < partitions; p++) {
                x.look(1, p, 0);
            }
        }
        Steps.deliverAll(x);
        return x.value(1, row[6]);
    }

    private static void wrongQueries() {
        Counted x = new Counted(3);
        int[][] wrong = {{-1, 0}, {2, 0}, {0, -1}, {0, 12}, {1, Integer.MAX_VALUE}, {Integer.MIN_VALUE, 0}};
        for (int[] w : wrong) {
            due.is("value" + w[0] + "," + w[1], x.value(w[0], w[1]), 0);
            due.is("locks" + w[0] + "," + w[1], x.locks(w[0], w[1]), -1);
            due.is("admitted" + w[0] + "," + w[1], x.admitted(w[0], w[1]), -1);
            due.is("finished" + w[0] + "," + w[1], x.finished(w[0], w[1]), -1);
            due.is("ready" + w[0] + "," + w[1], x.ready(w[0], w[1]), -1);
        }
        due.is("no partition 3", x.admitted(0, 3), -1);
        due.is("no partition 3", x.finished(0, 3), -1);
        due.is("no partition 3", x.ready(0, 3), -1);
        due.is("key 11", x.value(0, 11), 100);
        due.is("key 11", x.locks(0, 11), 0);
        x.crash(Steps.REPLICA + 1);
        due.is("down", x.value(1, 0), 0);
        due.is("down", x.locks(1, 0), -1);
        due.is("down", x.admitted(1, 0), -1);
        due.is("down", x.finished(1, 0), -1);
        due.is("down", x.ready(1, 0), -1);
        due.is("the other is up", x.value(0, 0), 100);
    }
}
