import java.util.ArrayList;
import java.util.Arrays;
import java.util.HashMap;
import java.util.HashSet;
import java.util.List;
import java.util.Map;
import java.util.Set;
import java.util.TreeSet;

/**
 * The document written down a second time, with no care for speed: it keeps what has happened and
 * works everything else out anew in each call.
 */
final class Model {
    private static final int STORE = 1;
    private static final int ACK = 2;
    private static final int CLOSED = 3;
    private static final int VALUES = 4;

    private static final class Tx {
        int number;
        int kind;
        int a;
        int b;
        int n;
        boolean lost;

        Set<Integer> reads() {
            switch (kind) {
                case 2: return Set.of();
                case 4: return Set.of(a);
                default: return new TreeSet<>(List.of(a, b));
            }
        }

        Set<Integer> writes() {
            switch (kind) {
                case 0: case 3: return new TreeSet<>(List.of(a, b));
                case 1: return Set.of(n);
                case 5: return Set.of(b);
                default: return Set.of(a);
            }
        }

        Map<Integer, Integer> outcome(Map<Integer, Integer> read) {
            Map<Integer, Integer> out = new HashMap<>();
            switch (kind) {
                case 0:
                    if (read.get(a) >= n) {
                        out.put(a, read.get(a) - n);
                        out.put(b, read.get(b) + n);
                    }
                    break;
                case 1: out.put(n, read.get(a) + read.get(b)); break;
                case 2: out.put(a, n); break;
                case 3: out.put(a, read.get(b)); out.put(b, read.get(a)); break;
                case 4: out.put(a, read.get(a) + n); break;
                default:
                    if (read.get(a) > read.get(b)) {
                        out.put(b, read.get(a));
                    }
            }
            return out;
        }
    }

    private static final class Message {
        int kind;
        int who;
        int what;
        int from;
        int last;
        int incarnation;
        Map<Integer, Integer> values;

        int code() {
            return kind * 1000000 + who * 100000 + what * 1000 + from * 10 + last;
        }
    }

    private static final class Slot {
        List<Tx> original;
        boolean proposedEmpty;
        boolean decided;
        Set<Integer> acknowledged = new HashSet<>();
    }

    private static final class Sequencer {
        boolean up = true;
        int incarnation = 1;
        List<Tx> batch = new ArrayList<>();
        List<Slot> slots = new ArrayList<>();
    }

    private static final class Entry {
        int incarnation;
        boolean empty;
    }

    private static final class LogNode {
        boolean up = true;
        int[] promised = {0, 0};
        Map<List<Integer>, Entry> stored = new HashMap<>();
    }

    private static final class Part {
        int skipped;
        List<Tx> admitted = new ArrayList<>();
        Set<Tx> looked = new HashSet<>();
        Set<Tx> finished = new HashSet<>();
        Map<Integer, Map<Integer, Integer>> valuesHere = new HashMap<>();
    }

    private static final class Replica {
        boolean up = true;
        Set<List<Integer>> known = new HashSet<>();
        int[] checkpoint = new int[12];
        int held = 0;
        int[] values = new int[12];
        Part[] parts;
    }

    private final int partitions;
    private final List<Tx> transactions = new ArrayList<>();
    private final List<Message> list = new ArrayList<>();
    private final LogNode[] nodes = {new LogNode(), new LogNode(), new LogNode()};
    private final Sequencer[] sequencers = {new Sequencer(), new Sequencer()};
    private final Replica[] replicas = {new Replica(), new Replica()};

    Model(int partitions) {
        this.partitions = partitions < 1 ? 1 : partitions > 4 ? 4 : partitions;
        for (Replica replica : replicas) {
            Arrays.fill(replica.checkpoint, 100);
            begin(replica);
        }
    }

    private void begin(Replica replica) {
        replica.values = replica.checkpoint.clone();
        replica.parts = new Part[partitions];
        for (int p = 0; p < partitions; p++) {
            replica.parts[p] = new Part();
            replica.parts[p].skipped = replica.held;
        }
    }

    private static boolean key(int k) {
        return 0 <= k && k <= 11;
    }

    private boolean canSequence(int s) {
        return (s == 0 || s == 1) && sequencers[s].up;
    }

    private boolean tooMany() {
        return list.size() > 48;
    }

    private void send(int kind, int who, int what, int from, int last, int incarnation) {
        Message message = new Message();
        message.kind = kind;
        message.who = who;
        message.what = what;
        message.from = from;
        message.last = last;
        message.incarnation = incarnation;
        list.add(message);
    }

    int submit(int s, int kind, int a, int b, int n) {
        if (!canSequence(s) || kind < 0 || kind > 5 || !key(a)) return -1;
        if ((kind == 0 || kind == 1 || kind == 3 || kind == 5) && !key(b)) return -1;
        if ((kind == 0 || kind == 3) && a == b) return -1;
        if (kind == 1 && (!key(n) || n == a || n == b)) return -1;
        if (kind == 0 && n < 0) return -1;
        if (sequencers[s].batch.size() >= 6 || transactions.size() >= 100) return -1;
        Tx tx = new Tx();
        tx.number = transactions.size();
        tx.kind = kind;
        tx.a = a;
        tx.b = b;
        tx.n = n;
        transactions.add(tx);
        sequencers[s].batch.add(tx);
        return tx.number;
    }

    int close(int s) {
        if (!canSequence(s) || tooMany()) return -1;
        Sequencer q = sequencers[s];
        if (q.slots.size() >= 20 || q.slots.stream().filter(slot -> !slot.decided).count() >= 3) return -1;
        Slot slot = new Slot();
        slot.original = q.batch;
        q.batch = new ArrayList<>();
        q.slots.add(slot);
        int e = q.slots.size() - 1;
        for (int l = 0; l < 3; l++) send(STORE, s, e, l, 0, q.incarnation);
        return e;
    }

    int resend(int s, int e) {
        if (!canSequence(s) || tooMany() || e < 0 || e >= sequencers[s].slots.size()) return -1;
        Slot slot = sequencers[s].slots.get(e);
        int before = list.size();
        if (slot.decided) {
            for (int r = 0; r < 2; r++) send(CLOSED, s, e, r, slot.proposedEmpty ? 1 : 0, 0);
        } else {
            for (int l = 0; l < 3; l++) {
                if (!slot.acknowledged.contains(l)) {
                    send(STORE, s, e, l, slot.proposedEmpty ? 1 : 0, sequencers[s].incarnation);
                }
            }
        }
        return list.size() - before;
    }

    int messages() {
        return list.size();
    }

    int message(int i) {
        return i < 0 || i >= list.size() ? -1 : list.get(i).code();
    }

    boolean deliver(int i) {
        if (i < 0 || i >= list.size()) return false;
        Message m = list.remove(i);
        if (m.kind == STORE) arriveStore(m);
        if (m.kind == ACK) arriveAck(m);
        if (m.kind == CLOSED && replicas[m.from].up) replicas[m.from].known.add(List.of(m.what, m.who));
        if (m.kind == VALUES) arriveValues(m);
        return true;
    }

    private void arriveStore(Message m) {
        LogNode node = nodes[m.from];
        if (!node.up || node.promised[m.who] > m.incarnation) return;
        node.promised[m.who] = m.incarnation;
        Entry entry = new Entry();
        entry.incarnation = m.incarnation;
        entry.empty = m.last == 1;
        node.stored.put(List.of(m.what, m.who), entry);
        send(ACK, m.who, m.what, m.from, 0, m.incarnation);
    }

    private void arriveAck(Message m) {
        Sequencer q = sequencers[m.who];
        Slot slot = q.slots.get(m.what);
        if (!q.up || q.incarnation != m.incarnation || slot.decided) return;
        slot.acknowledged.add(m.from);
        if (slot.acknowledged.size() == 2) {
            slot.decided = true;
            for (int r = 0; r < 2; r++) send(CLOSED, m.who, m.what, r, slot.proposedEmpty ? 1 : 0, 0);
        }
    }

    private void arriveValues(Message m) {
        Replica replica = replicas[m.who];
        Part part = replica.parts[m.last];
        part.valuesHere.computeIfAbsent(m.what, t -> new HashMap<>()).putAll(m.values);
        settle(replica, m.last);
    }

    boolean drop(int i) {
        if (i < 0 || i >= list.size() || list.get(i).kind == VALUES) return false;
        list.remove(i);
        return true;
    }

    boolean crash(int x) {
        if (x < 0 || x > 6 || !up(x)) return false;
        if (x <= 2) {
            nodes[x].up = false;
        } else if (x <= 4) {
            sequencers[x - 3].up = false;
            sequencers[x - 3].batch.forEach(tx -> tx.lost = true);
            sequencers[x - 3].batch.clear();
        } else {
            replicas[x - 5].up = false;
            list.removeIf(m -> m.kind == VALUES && m.who == x - 5);
        }
        return true;
    }

    private boolean up(int x) {
        return x <= 2 ? nodes[x].up : x <= 4 ? sequencers[x - 3].up : replicas[x - 5].up;
    }

    boolean restart(int x) {
        if (x < 0 || x > 6 || up(x)) return false;
        if (x <= 2) {
            nodes[x].up = true;
            return true;
        }
        if (x >= 5) {
            replicas[x - 5].up = true;
            begin(replicas[x - 5]);
            return true;
        }
        if (Arrays.stream(nodes).filter(node -> node.up).count() < 2 || tooMany()) return false;
        int s = x - 3;
        Sequencer q = sequencers[s];
        q.up = true;
        q.incarnation++;
        for (LogNode node : nodes) {
            if (node.up) node.promised[s] = q.incarnation;
        }
        for (int e = 0; e < q.slots.size(); e++) {
            Slot slot = q.slots.get(e);
            if (slot.decided) continue;
            Entry best = null;
            for (LogNode node : nodes) {
                Entry entry = node.stored.get(List.of(e, s));
                if (node.up && entry != null && (best == null || entry.incarnation > best.incarnation)) best = entry;
            }
            slot.proposedEmpty = best == null || best.empty;
            slot.acknowledged.clear();
            for (int l = 0; l < 3; l++) send(STORE, s, e, l, slot.proposedEmpty ? 1 : 0, q.incarnation);
        }
        return true;
    }

    private List<Tx> log(Replica replica) {
        List<Tx> log = new ArrayList<>();
        for (int e = 0; e < 20; e++) {
            for (int s = 0; s < 2; s++) {
                if (!replica.known.contains(List.of(e, s))) return log;
                Slot slot = sequencers[s].slots.get(e);
                if (!slot.proposedEmpty) log.addAll(slot.original);
            }
        }
        return log;
    }

    private Part part(int r, int p) {
        boolean there = (r == 0 || r == 1) && p >= 0 && p < partitions && replicas[r].up;
        return there ? replicas[r].parts[p] : null;
    }

    private Set<Integer> within(Set<Integer> keys, int p) {
        Set<Integer> own = new TreeSet<>(keys);
        own.removeIf(k -> k % partitions != p);
        return own;
    }

    private boolean takesPart(Tx tx, int p) {
        return !within(tx.reads(), p).isEmpty() || !within(tx.writes(), p).isEmpty();
    }

    int admit(int r, int p) {
        Part part = part(r, p);
        if (part == null || unfinished(part).size() >= 10) return -1;
        List<Tx> log = log(replicas[r]);
        int next = part.skipped + part.admitted.size();
        if (next >= log.size()) return -1;
        Tx tx = log.get(next);
        part.admitted.add(tx);
        if (!takesPart(tx, p)) part.finished.add(tx);
        return tx.number;
    }

    private static List<Tx> unfinished(Part part) {
        List<Tx> rest = new ArrayList<>(part.admitted);
        rest.removeAll(part.finished);
        return rest;
    }

    private List<Tx> readyOnes(Part part, int p) {
        List<Tx> ready = new ArrayList<>();
        List<Tx> rest = unfinished(part);
        for (int j = 0; j < rest.size(); j++) {
            boolean granted = true;
            for (int i = 0; i < j; i++) {
                granted &= !conflict(rest.get(i), rest.get(j), p);
            }
            if (granted && !part.looked.contains(rest.get(j))) ready.add(rest.get(j));
        }
        return ready;
    }

    private boolean conflict(Tx first, Tx second, int p) {
        for (int k = p; k < 12; k += partitions) {
            boolean firstHas = first.reads().contains(k) || first.writes().contains(k);
            boolean secondHas = second.reads().contains(k) || second.writes().contains(k);
            boolean bothShared = !first.writes().contains(k) && !second.writes().contains(k);
            if (firstHas && secondHas && !bothShared) return true;
        }
        return false;
    }

    int look(int r, int p, int i) {
        Part part = part(r, p);
        if (part == null || tooMany()) return -1;
        List<Tx> ready = readyOnes(part, p);
        if (i < 0 || i >= ready.size()) return -1;
        Tx tx = ready.get(i);
        part.looked.add(tx);
        Map<Integer, Integer> read = new HashMap<>();
        for (int k : within(tx.reads(), p)) read.put(k, replicas[r].values[k]);
        part.valuesHere.computeIfAbsent(tx.number, t -> new HashMap<>()).putAll(read);
        for (int q = 0; q < partitions && !read.isEmpty(); q++) {
            if (q != p && !within(tx.writes(), q).isEmpty()) {
                send(VALUES, r, tx.number, p, q, 0);
                list.get(list.size() - 1).values = read;
            }
        }
        settle(replicas[r], p);
        return tx.number;
    }

    private void settle(Replica replica, int p) {
        Part part = replica.parts[p];
        for (Tx tx : unfinished(part)) {
            if (!part.looked.contains(tx)) continue;
            Set<Integer> own = within(tx.writes(), p);
            Map<Integer, Integer> here = part.valuesHere.get(tx.number);
            if (own.isEmpty()) {
                part.finished.add(tx);
            } else if (here.keySet().containsAll(tx.reads())) {
                Map<Integer, Integer> outcome = tx.outcome(here);
                for (int k : own) replica.values[k] = outcome.getOrDefault(k, replica.values[k]);
                part.finished.add(tx);
            }
        }
    }

    int checkpoint(int r) {
        if (r < 0 || r > 1 || !replicas[r].up) return -1;
        Set<Integer> counts = new HashSet<>();
        for (int p = 0; p < partitions; p++) {
            counts.add(admitted(r, p));
            if (!unfinished(replicas[r].parts[p]).isEmpty()) return -1;
        }
        if (counts.size() != 1) return -1;
        replicas[r].checkpoint = replicas[r].values.clone();
        replicas[r].held = admitted(r, 0);
        return replicas[r].held;
    }

    int value(int r, int k) {
        return (r == 0 || r == 1) && key(k) && replicas[r].up ? replicas[r].values[k] : 0;
    }

    int status(int t) {
        if (t < 0 || t >= transactions.size()) return -1;
        Tx tx = transactions.get(t);
        if (tx.lost) return 3;
        for (Sequencer q : sequencers) {
            for (Slot slot : q.slots) {
                if (slot.original.contains(tx)) return !slot.decided ? 1 : slot.proposedEmpty ? 3 : 2;
            }
        }
        return 0;
    }

    int logged(int r, int i) {
        if (r < 0 || r > 1) return -1;
        List<Tx> log = log(replicas[r]);
        return i < 0 || i >= log.size() ? -1 : log.get(i).number;
    }

    int admitted(int r, int p) {
        Part part = part(r, p);
        return part == null ? -1 : part.skipped + part.admitted.size();
    }

    int finished(int r, int p) {
        Part part = part(r, p);
        return part == null ? -1 : part.skipped + part.finished.size();
    }

    int ready(int r, int p) {
        Part part = part(r, p);
        return part == null ? -1 : readyOnes(part, p).size();
    }

    int locks(int r, int k) {
        if (r < 0 || r > 1 || !key(k) || !replicas[r].up) return -1;
        int count = 0;
        for (Tx tx : unfinished(replicas[r].parts[k % partitions])) {
            if (tx.reads().contains(k) || tx.writes().contains(k)) count++;
        }
        return count;
    }

    int stored(int l, int s, int e) {
        if (l < 0 || l > 2 || s < 0 || s > 1 || e < 0 || e >= sequencers[s].slots.size()) return -1;
        Entry entry = nodes[l].stored.get(List.of(e, s));
        return entry == null ? 0 : 2 * entry.incarnation + (entry.empty ? 1 : 0);
    }
}
