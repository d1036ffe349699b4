/** The edges of promise 12, and of what the terms say of looking, VALUES and finishing. */
public final class LookEdgesTest {
    private static final Due due = new Due("LookEdgesTest");
    private static final Twins twins = new Twins(due);
    private static final int MIN = Integer.MIN_VALUE;
    private static final int MAX = Integer.MAX_VALUE;

    public static void main(String[] args) {
        placesThatThereAreNot();
        noneIsReady();
        noSuchReplicaOrPartition();
        replicaThatIsDown();
        lookWithFortyEightUnderWay();
        lookThatSendsNothingWithFortyEightUnderWay();
        lookInTheOnlyPartitionWithFortyEightUnderWay();
        oneThatHasLookedIsNotReady();
        valuesGoToActivePartitions();
        whoIsNotActiveHasThenFinished();
        valuesFromAllThatRead();
        valuesBeforeAndAfterTheLook();
        valuesBeforeAdmission();
        valuesAreOfOneTransaction();
        valuesAreThoseOfTheLook(0, 1);
        valuesAreThoseOfTheLook(1, 0);
        due.end();
    }

    // "The i-th (from 0) of the transactions that are READY": one is in partition 0 of the busy store, two are in 1
    private static void placesThatThereAreNot() {
        int[] noneOfOne = {MIN, -1, 1, 2, 10, MAX};
        for (int i : noneOfOne) {
            twins.none("look(0, 0, " + i + ")", Scenes::busy, x -> x.look(0, 0, i));
        }
        due.is("look(0, 0, 0)", Scenes.busy().look(0, 0, 0), 4);
        int[] noneOfTwo = {MIN, -1, 2, 3, 10, MAX};
        for (int i : noneOfTwo) {
            twins.none("look(0, 1, " + i + ")", Scenes::busy, x -> x.look(0, 1, i));
        }
        due.is("look(0, 1, 0)", Scenes.busy().look(0, 1, 0), 1);
        due.is("look(0, 1, 1)", Scenes.busy().look(0, 1, 1), 2);
    }

    // "Refused with NONE when there is none"
    private static void noneIsReady() {
        twins.none("look of a new object", Scenes::fresh, x -> x.look(0, 0, 0));
        twins.none("look with nothing admitted", Scenes::busy, x -> x.look(1, 0, 0));
        twins.none("look when all have finished", LookEdgesTest::allFinished, x -> x.look(0, 0, 0));
    }

    private static Counted allFinished() {
        Counted x = Scenes.unfinished(1);
        x.look(0, 0, 0);
        return x;
    }

    private static void noSuchReplicaOrPartition() {
        int[][] none = {{MIN, 0}, {-1, 0}, {2, 0}, {MAX, 0}, {0, MIN}, {0, -1}, {0, 2}, {0, 3}, {0, 4}, {0, MAX}};
        for (int[] place : none) {
            twins.none("look(" + place[0] + ", " + place[1] + ", 0)", Scenes::busy,
                    x -> x.look(place[0], place[1], 0));
        }
        due.is("look(1, 1, 0)", Scenes.busy().look(1, 1, 0), 1);
    }

    private static void replicaThatIsDown() {
        for (int r = 0; r < 2; r++) {
            int down = r;
            twins.none("look in " + r + " that is down", () -> replicaDown(down), x -> x.look(down, 1, 0));
            due.is("look in the other", replicaDown(r).look(1 - r, 1, 0), 1);
        }
    }

    private static Counted replicaDown(int r) {
        Counted x = Scenes.busy();
        x.crash(Steps.REPLICA + r);
        return x;
    }

    // "or more than 48 messages are under way": 47, 48, 49 and 50
    private static void lookWithFortyEightUnderWay() {
        for (int messages = 47; messages <= 48; messages++) {
            Counted x = Scenes.underWay(messages);
            due.is("look with " + messages, x.look(0, 0, 0), 0);
            due.is("messages()", x.messages(), messages + 1);
            due.is("the VALUES", x.message(messages), 4000001);
        }
        for (int messages = 49; messages <= 50; messages++) {
            int many = messages;
            twins.none("look with " + many, () -> Scenes.underWay(many), x -> x.look(0, 0, 0));
        }
    }

    private static void lookThatSendsNothingWithFortyEightUnderWay() {
        for (int messages = 47; messages <= 48; messages++) {
            Counted x = Scenes.underWay(messages);
            due.is("look with " + messages, x.look(0, 0, 1), 1);
            due.is("messages()", x.messages(), messages);
            due.is("value(0, 2)", x.value(0, 2), 104);
        }
        for (int messages = 49; messages <= 50; messages++) {
            int many = messages;
            twins.none("look that sends nothing with " + many, () -> Scenes.underWay(many), x -> x.look(0, 0, 1));
        }
    }

    private static void lookInTheOnlyPartitionWithFortyEightUnderWay() {
        due.is("look with 48", onePartition(48).look(0, 0, 0), 0);
        twins.none("look in the only partition with 49", () -> onePartition(49), x -> x.look(0, 0, 0));
    }

    /** No transaction has another partition to send to; so many messages, 47 to 50, are under way. */
    private static Counted onePartition(int messages) {
        Counted x = new Counted(1);
        x.submit(0, Steps.SWAP, 0, 1, 0);
        Steps.closeAndDecide(x, 0);
        x.admit(0, 0);
        Scenes.fill(x, messages);
        return x;
    }

    // READY when "it has not LOOKED there"
    private static void oneThatHasLookedIsNotReady() {
        Counted x = inFour(Steps.MOVE, 1, 2, 5);
        due.is("ready(0, 1)", x.ready(0, 1), 1);
        due.is("look(0, 1, 0)", x.look(0, 1, 0), 0);
        due.is("ready(0, 1) when it has looked", x.ready(0, 1), 0);
        due.is("finished(0, 1)", x.finished(0, 1), 0);
        due.is("look(0, 1, 0) again", x.look(0, 1, 0), -1);
        due.is("one VALUES", x.messages(), 1);
        due.is("it has not looked elsewhere", x.ready(0, 2), 1);
    }

    /** Replica 0 has admitted the one transaction in each of four partitions. */
    private static Counted inFour(int kind, int a, int b, int n) {
        Counted x = new Counted(4);
        x.submit(0, kind, a, b, n);
        Steps.closeAndDecide(x, 0);
        Steps.admitInAll(x, 0, 4, 1);
        return x;
    }

    // "sends them (VALUES) to each other partition that is active in it (nothing is sent if it reads none of them)"
    private static void valuesGoToActivePartitions() {
        // kind, a, b, n, partition that looks, and to which it sends; -1 for none
        int[][] rows = {
            {Steps.MOVE, 1, 2, 3, 1, 2}, {Steps.MOVE, 1, 2, 3, 2, 1}, {Steps.MOVE, 1, 5, 3, 1, -1},
            {Steps.SUM, 1, 2, 3, 1, 3}, {Steps.SUM, 1, 2, 3, 2, 3}, {Steps.SUM, 1, 2, 3, 3, -1},
            {Steps.SUM, 1, 5, 2, 1, 2}, {Steps.SUM, 1, 5, 2, 2, -1}, {Steps.SUM, 1, 2, 5, 1, -1},
            {Steps.SUM, 1, 2, 5, 2, 1}, {Steps.SUM, 3, 3, 0, 3, 0}, {Steps.SUM, 3, 3, 0, 0, -1},
            {Steps.SUM, 1, 5, 9, 1, -1}, {Steps.SET, 1, 2, 3, 1, -1}, {Steps.ADD, 1, 2, 3, 1, -1},
            {Steps.SWAP, 0, 3, 1, 0, 3}, {Steps.SWAP, 0, 3, 1, 3, 0}, {Steps.SWAP, 0, 8, 1, 0, -1},
            {Steps.TOP, 1, 2, 3, 1, 2}, {Steps.TOP, 1, 2, 3, 2, -1}, {Steps.TOP, 1, 9, 3, 1, -1},
            {Steps.TOP, 2, 2, 3, 2, -1},
        };
        for (int[] row : rows) {
            Counted x = inFour(row[0], row[1], row[2], row[3]);
            String name = "kind " + row[0] + " from partition " + row[4];
            due.is("look, " + name, x.look(0, row[4], 0), 0);
            due.is("messages(), " + name, x.messages(), row[5] == -1 ? 0 : 1);
            due.is("message(0), " + name, x.message(0), row[5] == -1 ? -1 : 4000000 + 10 * row[4] + row[5]);
        }
    }

    // "A partition that is not active has then finished it."
    private static void whoIsNotActiveHasThenFinished() {
        // kind, a, b, n, partition that looks, and whether it has then finished
        int[][] rows = {
            {Steps.SUM, 1, 2, 3, 1, 1}, {Steps.SUM, 1, 2, 3, 2, 1}, {Steps.SUM, 1, 2, 3, 3, 0},
            {Steps.SUM, 1, 5, 2, 1, 1}, {Steps.SUM, 1, 5, 2, 2, 0}, {Steps.SUM, 1, 2, 5, 1, 0},
            {Steps.SUM, 1, 5, 9, 1, 1}, {Steps.TOP, 1, 2, 3, 1, 1}, {Steps.TOP, 1, 2, 3, 2, 0},
            {Steps.TOP, 1, 5, 3, 1, 1}, {Steps.MOVE, 1, 2, 3, 1, 0}, {Steps.MOVE, 1, 5, 3, 1, 1},
            {Steps.SWAP, 1, 2, 3, 2, 0}, {Steps.SET, 1, 2, 3, 1, 1}, {Steps.ADD, 1, 2, 3, 1, 1},
        };
        for (int[] row : rows) {
            Counted x = inFour(row[0], row[1], row[2], row[3]);
            x.look(0, row[4], 0);
            String name = "kind " + row[0] + " in partition " + row[4];
            due.is("finished, " + name, x.finished(0, row[4]), row[5]);
        }
    }

    // "as soon as it has looked and has the values from all other partitions that have keys which it reads"
    private static void valuesFromAllThatRead() {
        // What happens in partition 3, in each order: 0 it looks, 1 and 2 the values of that partition arrive.
        int[][] orders = {{0, 1, 2}, {0, 2, 1}, {1, 0, 2}, {2, 0, 1}, {1, 2, 0}, {2, 1, 0}};
        for (int[] order : orders) {
            Counted x = inFour(Steps.SUM, 1, 2, 3);
            x.look(0, 1, 0);
            x.look(0, 2, 0);
            for (int i = 0; i < 3; i++) {
                due.is("finished(0, 3) before " + i, x.finished(0, 3), 0);
                due.is("value(0, 3) before " + i, x.value(0, 3), 100);
                if (order[i] == 0) {
                    due.is("look", x.look(0, 3, 0), 0);
                } else {
                    due.is("deliver", deliverFrom(x, order[i]), true);
                }
            }
            due.is("finished(0, 3)", x.finished(0, 3), 1);
            due.is("value(0, 3)", x.value(0, 3), 200);
            due.is("locks(0, 3)", x.locks(0, 3), 0);
        }
    }

    private static boolean deliverFrom(Counted x, int partition) {
        return x.message(0) / 10 % 10 == partition ? x.deliver(0) : x.deliver(1);
    }

    // "(Values that arrive before it looks are kept.)"
    private static void valuesBeforeAndAfterTheLook() {
        Counted x = inFour(Steps.MOVE, 1, 2, 5);
        x.look(0, 1, 0);
        x.deliver(0);
        due.is("values before the look", x.finished(0, 2), 0);
        due.is("it is ready still", x.ready(0, 2), 1);
        due.is("value(0, 2)", x.value(0, 2), 100);
        x.look(0, 2, 0);
        due.is("it has looked", x.finished(0, 2), 1);
        due.is("value(0, 2)", x.value(0, 2), 105);
        due.is("partition 1 waits", x.finished(0, 1), 0);
        x.deliver(0);
        due.is("values after the look", x.finished(0, 1), 1);
        due.is("value(0, 1)", x.value(0, 1), 95);
    }

    private static void valuesBeforeAdmission() {
        Counted x = new Counted(4);
        x.submit(0, Steps.SWAP, 1, 2, 0);
        x.submit(0, Steps.ADD, 1, 0, 7);
        Steps.closeAndDecide(x, 0);
        x.admit(0, 1);
        x.look(0, 1, 0);
        x.deliver(0);
        due.is("admitted(0, 2)", x.admitted(0, 2), 0);
        due.is("finished(0, 2)", x.finished(0, 2), 0);
        due.is("admit(0, 2)", x.admit(0, 2), 0);
        due.is("it does not finish before it looks", x.finished(0, 2), 0);
        due.is("look(0, 2, 0)", x.look(0, 2, 0), 0);
        due.is("finished(0, 2)", x.finished(0, 2), 1);
    }

    private static void valuesAreOfOneTransaction() {
        Counted x = new Counted(2);
        x.submit(0, Steps.TOP, 0, 1, 0);
        x.submit(0, Steps.TOP, 2, 3, 0);
        Steps.closeAndDecide(x, 0);
        Steps.admitInAll(x, 0, 2, 2);
        x.look(0, 0, 0);
        x.look(0, 0, 0);
        x.look(0, 1, 0);
        x.look(0, 1, 0);
        due.is("VALUES of the second", x.message(1), 4001001);
        x.deliver(1);
        due.is("finished(0, 1)", x.finished(0, 1), 1);
        due.is("the first has not finished", x.locks(0, 1), 1);
        due.is("the second has", x.locks(0, 3), 0);
        x.deliver(0);
        due.is("finished(0, 1)", x.finished(0, 1), 2);
    }

    // "Looking, it takes the values of the keys of that partition that it reads"
    private static void valuesAreThoseOfTheLook(int a, int b) {
        Counted x = new Counted(3);
        x.submit(0, Steps.SUM, a, b, 2);
        x.submit(0, Steps.SET, 0, 0, 700);
        x.submit(0, Steps.SET, 1, 0, 900);
        Steps.closeAndDecide(x, 0);
        Steps.admitInAll(x, 0, 3, 3);
        due.is("key 1 is read", x.look(0, 1, 0), 0);
        due.is("key 1 is written then", x.look(0, 1, 0), 2);
        due.is("key 0 is read", x.look(0, 0, 0), 0);
        due.is("key 0 is written then", x.look(0, 0, 0), 1);
        x.look(0, 2, 0);
        Steps.deliverAll(x);
        due.is("the sum of what was read", x.value(0, 2), 200);
        due.is("value(0, 0)", x.value(0, 0), 700);
        due.is("value(0, 1)", x.value(0, 1), 900);
    }
}
