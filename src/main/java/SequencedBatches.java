/** A store in two replicas, cut into partitions, that executes one log of batched transactions. */
public final class SequencedBatches {
    public static final int NONE = -1;

    private static final int KEYS = 12;
    private static final int FIRST_VALUE = 100;
    private static final int MOST_PARTITIONS = 4;
    private static final int MOST_TRANSACTIONS = 100;
    private static final int MOST_IN_BATCH = 6;
    private static final int MOST_UNDECIDED = 3;
    private static final int MOST_UNFINISHED = 10;
    private static final int EPOCHS = 20;

    private static final int LOG_NODES = 3;
    private static final int SEQUENCERS = 2;
    private static final int REPLICAS = 2;
    private static final int FIRST_SEQUENCER = LOG_NODES;
    private static final int FIRST_REPLICA = FIRST_SEQUENCER + SEQUENCERS;
    private static final int NODES = FIRST_REPLICA + REPLICAS;

    private final int partitions;
    private final boolean[] down = new boolean[NODES];
    private final Transaction[] transactions = new Transaction[MOST_TRANSACTIONS];
    private int transactionCount = 0;
    private final Post post = new Post();
    private final LogNode[] logNodes = new LogNode[LOG_NODES];
    private final Sequencer[] sequencers = new Sequencer[SEQUENCERS];
    private final Replica[] replicas = new Replica[REPLICAS];

    public SequencedBatches(int partitions) {
        this.partitions = Math.max(1, Math.min(MOST_PARTITIONS, partitions));
        for (int l = 0; l < LOG_NODES; l++) {
            logNodes[l] = new LogNode();
        }
        for (int s = 0; s < SEQUENCERS; s++) {
            sequencers[s] = new Sequencer();
        }
        for (int r = 0; r < REPLICAS; r++) {
            replicas[r] = new Replica(this.partitions);
        }
    }

    public int submit(int s, int kind, int a, int b, int n) {
        if (!sequencerIsUp(s) || !Transaction.isAllowed(kind, a, b, n)) {
            return NONE;
        }
        if (sequencers[s].batchIsFull() || transactionCount == MOST_TRANSACTIONS) {
            return NONE;
        }
        Transaction transaction = new Transaction(transactionCount, kind, a, b, n);
        transactions[transactionCount] = transaction;
        transactionCount++;
        sequencers[s].gather(transaction);
        return transaction.number;
    }

    public int close(int s) {
        if (!sequencerIsUp(s) || !sequencers[s].hasRoomForSlot() || post.isCrowded()) {
            return NONE;
        }
        int e = sequencers[s].makeSlot();
        sendStores(s, e);
        return e;
    }

    public int resend(int s, int e) {
        if (!sequencerIsUp(s) || post.isCrowded()) {
            return NONE;
        }
        Slot slot = sequencers[s].slotAt(e);
        if (slot == null) {
            return NONE;
        }
        return slot.decided ? sendClosed(s, e) : sendStores(s, e);
    }

    public int messages() {
        return post.count;
    }

    public int message(int i) {
        return post.has(i) ? post.codes[i] : NONE;
    }

    public boolean deliver(int i) {
        if (!post.has(i)) {
            return false;
        }
        int code = post.codes[i];
        int incarnation = post.incarnations[i];
        post.takeOut(i);
        switch (Code.kind(code)) {
            case Code.STORE:
                storeArrives(code, incarnation);
                break;
            case Code.ACK:
                ackArrives(code, incarnation);
                break;
            case Code.CLOSED:
                closedArrives(code);
                break;
            default:
                valuesArrive(code);
                break;
        }
        return true;
    }

    public boolean drop(int i) {
        if (!post.has(i) || Code.kind(post.codes[i]) == Code.VALUES) {
            return false;
        }
        post.takeOut(i);
        return true;
    }

    public boolean crash(int x) {
        if (x < 0 || x >= NODES || down[x]) {
            return false;
        }
        down[x] = true;
        if (x >= FIRST_REPLICA) {
            post.forgetValuesOf(x - FIRST_REPLICA);
        } else if (x >= FIRST_SEQUENCER) {
            sequencers[x - FIRST_SEQUENCER].loseBatch();
        }
        return true;
    }

    public boolean restart(int x) {
        if (x < 0 || x >= NODES || !down[x]) {
            return false;
        }
        boolean isSequencer = x >= FIRST_SEQUENCER && x < FIRST_REPLICA;
        if (isSequencer && (logNodesUp() < 2 || post.isCrowded())) {
            return false;
        }
        down[x] = false;
        if (isSequencer) {
            takeUpSequencer(x - FIRST_SEQUENCER);
        } else if (x >= FIRST_REPLICA) {
            replicas[x - FIRST_REPLICA].beginFromCheckpoint();
        }
        return true;
    }

    public int admit(int r, int p) {
        return partitionIsUp(r, p) ? replicas[r].admitNext(p) : NONE;
    }

    public int look(int r, int p, int i) {
        if (!partitionIsUp(r, p) || post.isCrowded()) {
            return NONE;
        }
        Transaction transaction = replicas[r].lookAtReady(p, i);
        if (transaction == null) {
            return NONE;
        }
        sendValues(r, p, transaction);
        return transaction.number;
    }

    public int checkpoint(int r) {
        return replicaIsUp(r) ? replicas[r].makeCheckpoint() : NONE;
    }

    public int value(int r, int k) {
        return replicaIsUp(r) && isKey(k) ? replicas[r].values[k] : 0;
    }

    public int status(int t) {
        return t >= 0 && t < transactionCount ? transactions[t].currentStatus() : NONE;
    }

    public int logged(int r, int i) {
        return r >= 0 && r < REPLICAS ? replicas[r].numberInLog(i) : NONE;
    }

    public int admitted(int r, int p) {
        return partitionIsUp(r, p) ? replicas[r].partitions[p].admittedCount : NONE;
    }

    public int finished(int r, int p) {
        return partitionIsUp(r, p) ? replicas[r].partitions[p].finishedCount() : NONE;
    }

    public int ready(int r, int p) {
        return partitionIsUp(r, p) ? replicas[r].partitions[p].readyCount() : NONE;
    }

    public int locks(int r, int k) {
        return replicaIsUp(r) && isKey(k) ? replicas[r].partitions[k % partitions].lockCount(k) : NONE;
    }

    public int stored(int l, int s, int e) {
        if (l < 0 || l >= LOG_NODES || s < 0 || s >= SEQUENCERS || sequencers[s].slotAt(e) == null) {
            return NONE;
        }
        return logNodes[l].latest[placeInLog(s, e)];
    }

    private boolean sequencerIsUp(int s) {
        return s >= 0 && s < SEQUENCERS && !down[FIRST_SEQUENCER + s];
    }

    private boolean replicaIsUp(int r) {
        return r >= 0 && r < REPLICAS && !down[FIRST_REPLICA + r];
    }

    private boolean partitionIsUp(int r, int p) {
        return replicaIsUp(r) && p >= 0 && p < partitions;
    }

    private int logNodesUp() {
        int up = 0;
        for (int l = 0; l < LOG_NODES; l++) {
            up += down[l] ? 0 : 1;
        }
        return up;
    }

    private static boolean isKey(int k) {
        return k >= 0 && k < KEYS;
    }

    private static int placeInLog(int s, int e) {
        return SEQUENCERS * e + s;
    }

    /** Sends to the log nodes that have not acknowledged the slot, and tells how many those are. */
    private int sendStores(int s, int e) {
        Slot slot = sequencers[s].slots[e];
        int sent = 0;
        for (int l = 0; l < LOG_NODES; l++) {
            if (!slot.isAcknowledgedBy(l)) {
                post.send(Code.of(Code.STORE, s, e, l, slot.emptyDigit()), sequencers[s].incarnation);
                sent++;
            }
        }
        return sent;
    }

    private int sendClosed(int s, int e) {
        int x = sequencers[s].slots[e].emptyDigit();
        for (int r = 0; r < REPLICAS; r++) {
            post.send(Code.of(Code.CLOSED, s, e, r, x), 0);
        }
        return REPLICAS;
    }

    private void sendValues(int r, int p, Transaction transaction) {
        Partition[] all = replicas[r].partitions;
        if (!transaction.reads(all[p].keys)) {
            return;
        }
        for (int q = 0; q < partitions; q++) {
            if (q != p && transaction.writes(all[q].keys)) {
                post.send(Code.of(Code.VALUES, r, transaction.number, p, q), 0);
            }
        }
    }

    private void storeArrives(int code, int incarnation) {
        int s = Code.owner(code);
        int e = Code.item(code);
        int l = Code.node(code);
        if (down[l] || logNodes[l].promised[s] > incarnation) {
            return;
        }
        logNodes[l].promised[s] = incarnation;
        logNodes[l].latest[placeInLog(s, e)] = 2 * incarnation + Code.last(code);
        post.send(Code.of(Code.ACK, s, e, l, 0), incarnation);
    }

    private void ackArrives(int code, int incarnation) {
        int s = Code.owner(code);
        int e = Code.item(code);
        Slot slot = sequencers[s].slots[e];
        if (!sequencerIsUp(s) || sequencers[s].incarnation != incarnation || slot.decided) {
            return;
        }
        slot.acknowledge(Code.node(code));
        if (slot.decided) {
            sendClosed(s, e);
        }
    }

    private void closedArrives(int code) {
        int s = Code.owner(code);
        int e = Code.item(code);
        int r = Code.node(code);
        if (replicaIsUp(r)) {
            replicas[r].learn(placeInLog(s, e), sequencers[s].slots[e]);
        }
    }

    private void valuesArrive(int code) {
        Replica replica = replicas[Code.owner(code)];
        replica.receiveValues(Code.item(code), Code.node(code), Code.last(code));
    }

    private void takeUpSequencer(int s) {
        Sequencer sequencer = sequencers[s];
        sequencer.incarnation++;
        for (int l = 0; l < LOG_NODES; l++) {
            if (!down[l]) {
                logNodes[l].promised[s] = sequencer.incarnation;
            }
        }
        for (int e = 0; e < sequencer.slotCount; e++) {
            Slot slot = sequencer.slots[e];
            if (!slot.decided) {
                slot.proposeAnew(isEmptyOnLogNodes(s, e));
                sendStores(s, e);
            }
        }
    }

    private boolean isEmptyOnLogNodes(int s, int e) {
        // What is stored with the same incarnation is alike, so the greatest entry has the greatest incarnation.
        int greatest = 0;
        for (int l = 0; l < LOG_NODES; l++) {
            if (!down[l]) {
                greatest = Math.max(greatest, logNodes[l].latest[placeInLog(s, e)]);
            }
        }
        return greatest == 0 || greatest % 2 == 1;
    }

    /** The code of a message tells all of it but the incarnation. */
    private static final class Code {
        static final int STORE = 1;
        static final int ACK = 2;
        static final int CLOSED = 3;
        static final int VALUES = 4;

        static int of(int kind, int owner, int item, int node, int last) {
            return 1000000 * kind + 100000 * owner + 1000 * item + 10 * node + last;
        }

        static int kind(int code) {
            return code / 1000000;
        }

        /** The sequencer; of VALUES the replica. */
        static int owner(int code) {
            return code / 100000 % 10;
        }

        /** The epoch; of VALUES the transaction. */
        static int item(int code) {
            return code / 1000 % 100;
        }

        /** The log node or the replica; of VALUES the partition that sends. */
        static int node(int code) {
            return code / 10 % 100;
        }

        /** 1 for an empty slot; of VALUES the partition that receives. */
        static int last(int code) {
            return code % 10;
        }
    }

    /** The messages under way, in the order in which they were sent. */
    private static final class Post {
        private static final int CROWD = 48;
        // Never filled: a call adds at most 9 (a restart) to 48, and an arrival one more
        // only when it decides one of 40 slots.
        private static final int ROOM = 100;

        private final int[] codes = new int[ROOM];
        private final int[] incarnations = new int[ROOM];
        private int count = 0;

        boolean has(int i) {
            return i >= 0 && i < count;
        }

        boolean isCrowded() {
            return count > CROWD;
        }

        void send(int code, int incarnation) {
            if (count < ROOM) {
                codes[count] = code;
                incarnations[count] = incarnation;
                count++;
            }
        }

        void takeOut(int i) {
            count--;
            for (int j = i; j < count; j++) {
                codes[j] = codes[j + 1];
                incarnations[j] = incarnations[j + 1];
            }
        }

        void forgetValuesOf(int r) {
            int kept = 0;
            for (int i = 0; i < count; i++) {
                if (Code.kind(codes[i]) != Code.VALUES || Code.owner(codes[i]) != r) {
                    codes[kept] = codes[i];
                    incarnations[kept] = incarnations[i];
                    kept++;
                }
            }
            count = kept;
        }
    }

    /** Sets of keys are ints with bit k for key k. */
    private static final class Transaction {
        private static final int MOVE = 0;
        private static final int SUM = 1;
        private static final int SET = 2;
        private static final int SWAP = 3;
        private static final int ADD = 4;
        private static final int TOP = 5;

        private final int number;
        private final int kind;
        private final int a;
        private final int b;
        private final int n;
        private final int readKeys;
        private final int writtenKeys;
        private Slot slot = null;
        private boolean lost = false;

        Transaction(int number, int kind, int a, int b, int n) {
            this.number = number;
            this.kind = kind;
            this.a = a;
            // A b that is not looked at may be no key at all.
            this.b = looksAtB(kind) ? b : a;
            this.n = n;
            this.readKeys = kind == SET ? 0 : (1 << this.a) | (1 << this.b);
            this.writtenKeys = keysWritten(kind, this.a, this.b, n);
        }

        static boolean isAllowed(int kind, int a, int b, int n) {
            if (kind < MOVE || kind > TOP || !isKey(a) || (looksAtB(kind) && !isKey(b))) {
                return false;
            }
            switch (kind) {
                case MOVE:
                    return a != b && n >= 0;
                case SUM:
                    return isKey(n) && n != a && n != b;
                case SWAP:
                    return a != b;
                default:
                    return true;
            }
        }

        private static boolean looksAtB(int kind) {
            return kind != SET && kind != ADD;
        }

        private static int keysWritten(int kind, int a, int b, int n) {
            switch (kind) {
                case SUM:
                    return 1 << n;
                case TOP:
                    return 1 << b;
                default:
                    return (1 << a) | (1 << b);
            }
        }

        boolean reads(int keys) {
            return (readKeys & keys) != 0;
        }

        boolean writes(int keys) {
            return (writtenKeys & keys) != 0;
        }

        boolean takesPart(int keys) {
            return reads(keys) || writes(keys);
        }

        /** Whether one of the two must wait for the other on one of these keys. */
        boolean excludes(Transaction other, int keys) {
            return writes(keys & (other.readKeys | other.writtenKeys)) || reads(keys & other.writtenKeys);
        }

        int newValue(int key, int valueOfA, int valueOfB) {
            switch (kind) {
                case MOVE:
                    int moved = valueOfA >= n ? n : 0;
                    return key == a ? valueOfA - moved : valueOfB + moved;
                case SUM:
                    return valueOfA + valueOfB;
                case SET:
                    return n;
                case SWAP:
                    return key == a ? valueOfB : valueOfA;
                case ADD:
                    return valueOfA + n;
                default:
                    return Math.max(valueOfA, valueOfB);
            }
        }

        int currentStatus() {
            if (lost) {
                return 3;
            }
            if (slot == null) {
                return 0;
            }
            if (!slot.decided) {
                return 1;
            }
            return slot.empty ? 3 : 2;
        }
    }

    private static final class Slot {
        private final Transaction[] original;
        private boolean empty = false;
        private boolean decided = false;
        private final boolean[] acknowledged = new boolean[LOG_NODES];

        Slot(Transaction[] original) {
            this.original = original;
        }

        int emptyDigit() {
            return empty ? 1 : 0;
        }

        boolean isAcknowledgedBy(int l) {
            return acknowledged[l];
        }

        void acknowledge(int l) {
            acknowledged[l] = true;
            int nodes = 0;
            for (int i = 0; i < LOG_NODES; i++) {
                nodes += acknowledged[i] ? 1 : 0;
            }
            decided = nodes >= 2;
        }

        void proposeAnew(boolean asEmpty) {
            empty = asEmpty;
            for (int l = 0; l < LOG_NODES; l++) {
                acknowledged[l] = false;
            }
        }
    }

    private static final class Sequencer {
        private final Transaction[] batch = new Transaction[MOST_IN_BATCH];
        private int batchCount = 0;
        private final Slot[] slots = new Slot[EPOCHS];
        private int slotCount = 0;
        private int incarnation = 1;

        boolean batchIsFull() {
            return batchCount == MOST_IN_BATCH;
        }

        void gather(Transaction transaction) {
            batch[batchCount] = transaction;
            batchCount++;
        }

        void loseBatch() {
            for (int i = 0; i < batchCount; i++) {
                batch[i].lost = true;
            }
            batchCount = 0;
        }

        boolean hasRoomForSlot() {
            int undecided = 0;
            for (int e = 0; e < slotCount; e++) {
                undecided += slots[e].decided ? 0 : 1;
            }
            return undecided < MOST_UNDECIDED && slotCount < EPOCHS;
        }

        int makeSlot() {
            Transaction[] original = new Transaction[batchCount];
            Slot slot = new Slot(original);
            for (int i = 0; i < batchCount; i++) {
                original[i] = batch[i];
                original[i].slot = slot;
            }
            batchCount = 0;
            slots[slotCount] = slot;
            slotCount++;
            return slotCount - 1;
        }

        Slot slotAt(int e) {
            return e >= 0 && e < slotCount ? slots[e] : null;
        }
    }

    private static final class LogNode {
        private final int[] promised = new int[SEQUENCERS];
        // By place in the log: 2 * incarnation, + 1 if empty; 0 when nothing is stored.
        private final int[] latest = new int[SEQUENCERS * EPOCHS];
    }

    private static final class Replica {
        private final Slot[] known = new Slot[SEQUENCERS * EPOCHS];
        private int slotsInLog = 0;
        private final Transaction[] log = new Transaction[MOST_TRANSACTIONS];
        private int logLength = 0;
        private final int[] checkpointValues = new int[KEYS];
        private int checkpointLength = 0;
        private final int[] values = new int[KEYS];
        private final Partition[] partitions;
        // By transaction, as looked at: a partition that only reads lets go of its locks,
        // so its values may change before the VALUES arrive.
        private final int[] valuesOfA = new int[MOST_TRANSACTIONS];
        private final int[] valuesOfB = new int[MOST_TRANSACTIONS];

        Replica(int partitionCount) {
            partitions = new Partition[partitionCount];
            for (int p = 0; p < partitionCount; p++) {
                partitions[p] = new Partition(p, partitionCount);
            }
            for (int k = 0; k < KEYS; k++) {
                checkpointValues[k] = FIRST_VALUE;
                values[k] = FIRST_VALUE;
            }
        }

        void learn(int place, Slot slot) {
            known[place] = slot;
            while (slotsInLog < known.length && known[slotsInLog] != null) {
                appendToLog(known[slotsInLog]);
                slotsInLog++;
            }
        }

        private void appendToLog(Slot slot) {
            if (slot.empty) {
                return;
            }
            for (int i = 0; i < slot.original.length; i++) {
                log[logLength] = slot.original[i];
                logLength++;
            }
        }

        int numberInLog(int i) {
            return i >= 0 && i < logLength ? log[i].number : NONE;
        }

        void beginFromCheckpoint() {
            System.arraycopy(checkpointValues, 0, values, 0, KEYS);
            for (int p = 0; p < partitions.length; p++) {
                partitions[p].beginBehind(checkpointLength);
            }
        }

        int makeCheckpoint() {
            int length = partitions[0].admittedCount;
            for (int p = 0; p < partitions.length; p++) {
                if (partitions[p].admittedCount != length || partitions[p].finishedCount() != length) {
                    return NONE;
                }
            }
            System.arraycopy(values, 0, checkpointValues, 0, KEYS);
            checkpointLength = length;
            return length;
        }

        int admitNext(int p) {
            int next = partitions[p].admittedCount;
            if (next >= logLength || partitions[p].isFull()) {
                return NONE;
            }
            partitions[p].take(log[next]);
            return log[next].number;
        }

        /** The i-th ready transaction, which has then looked; null when there is none. */
        Transaction lookAtReady(int p, int i) {
            Partition partition = partitions[p];
            int j = partition.indexOfReady(i);
            if (j == NONE) {
                return null;
            }
            Transaction transaction = partition.unfinished[j];
            keepReadValues(transaction, partition.keys);
            partition.looked[j] = true;
            finishIfComplete(partition, j);
            return transaction;
        }

        void receiveValues(int t, int from, int to) {
            Partition partition = partitions[to];
            partition.received[t] |= partitions[from].keys;
            int j = partition.indexOfNumber(t);
            if (j != NONE) {
                finishIfComplete(partition, j);
            }
        }

        private void keepReadValues(Transaction transaction, int keys) {
            if (transaction.reads(keys & (1 << transaction.a))) {
                valuesOfA[transaction.number] = values[transaction.a];
            }
            if (transaction.reads(keys & (1 << transaction.b))) {
                valuesOfB[transaction.number] = values[transaction.b];
            }
        }

        private void finishIfComplete(Partition partition, int j) {
            if (!partition.looked[j]) {
                return;
            }
            Transaction transaction = partition.unfinished[j];
            int here = partition.keys | partition.received[transaction.number];
            if (!transaction.writes(partition.keys)) {
                partition.finish(j);
            } else if (!transaction.reads(~here)) {
                write(transaction, partition.keys);
                partition.finish(j);
            }
        }

        private void write(Transaction transaction, int keys) {
            int valueOfA = valuesOfA[transaction.number];
            int valueOfB = valuesOfB[transaction.number];
            for (int k = 0; k < KEYS; k++) {
                if (transaction.writes(keys & (1 << k))) {
                    values[k] = transaction.newValue(k, valueOfA, valueOfB);
                }
            }
        }
    }

    private static final class Partition {
        private final int keys;
        private int admittedCount = 0;
        private final Transaction[] unfinished = new Transaction[MOST_UNFINISHED];
        private final boolean[] looked = new boolean[MOST_UNFINISHED];
        private int unfinishedCount = 0;
        // By transaction: the keys of the partitions whose values have arrived.
        private final int[] received = new int[MOST_TRANSACTIONS];

        Partition(int number, int partitionCount) {
            int own = 0;
            for (int k = 0; k < KEYS; k++) {
                if (k % partitionCount == number) {
                    own |= 1 << k;
                }
            }
            keys = own;
        }

        void beginBehind(int length) {
            admittedCount = length;
            unfinishedCount = 0;
            for (int t = 0; t < MOST_TRANSACTIONS; t++) {
                received[t] = 0;
            }
        }

        boolean isFull() {
            return unfinishedCount == MOST_UNFINISHED;
        }

        void take(Transaction transaction) {
            admittedCount++;
            if (transaction.takesPart(keys)) {
                unfinished[unfinishedCount] = transaction;
                looked[unfinishedCount] = false;
                unfinishedCount++;
            }
        }

        int finishedCount() {
            return admittedCount - unfinishedCount;
        }

        void finish(int j) {
            unfinishedCount--;
            for (int i = j; i < unfinishedCount; i++) {
                unfinished[i] = unfinished[i + 1];
                looked[i] = looked[i + 1];
            }
        }

        int readyCount() {
            int count = 0;
            for (int j = 0; j < unfinishedCount; j++) {
                count += isReady(j) ? 1 : 0;
            }
            return count;
        }

        int indexOfReady(int i) {
            int before = 0;
            for (int j = 0; j < unfinishedCount; j++) {
                if (isReady(j)) {
                    if (before == i) {
                        return j;
                    }
                    before++;
                }
            }
            return NONE;
        }

        int indexOfNumber(int t) {
            for (int j = 0; j < unfinishedCount; j++) {
                if (unfinished[j].number == t) {
                    return j;
                }
            }
            return NONE;
        }

        int lockCount(int k) {
            int count = 0;
            for (int j = 0; j < unfinishedCount; j++) {
                count += unfinished[j].takesPart(1 << k) ? 1 : 0;
            }
            return count;
        }

        private boolean isReady(int j) {
            if (looked[j]) {
                return false;
            }
            for (int i = 0; i < j; i++) {
                if (unfinished[i].excludes(unfinished[j], keys)) {
                    return false;
                }
            }
            return true;
        }
    }
}
