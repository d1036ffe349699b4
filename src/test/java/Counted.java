/** A store whose calls are counted: what it answers after its 512th call is free, so no test may ask. */
final class Counted {
    static final int MOST_CALLS = 512;

    private final SequencedBatches store;
    private int calls = 0;

    Counted(int partitions) {
        store = new SequencedBatches(partitions);
    }

    int calls() {
        return calls;
    }

    private SequencedBatches next() {
        calls++;
        if (calls > MOST_CALLS) {
            throw new IllegalStateException("a test makes more than " + MOST_CALLS + " calls on one object");
        }
        return store;
    }

    int submit(int s, int kind, int a, int b, int n) {
        return next().submit(s, kind, a, b, n);
    }

    int close(int s) {
        return next().close(s);
    }

    int resend(int s, int e) {
        return next().resend(s, e);
    }

    int messages() {
        return next().messages();
    }

    int message(int i) {
        return next().message(i);
    }

    boolean deliver(int i) {
        return next().deliver(i);
    }

    boolean drop(int i) {
        return next().drop(i);
    }

    boolean crash(int x) {
        return next().crash(x);
    }

    boolean restart(int x) {
        return next().restart(x);
    }

    int admit(int r, int p) {
        return next().admit(r, p);
    }

    int look(int r, int p, int i) {
        return next().look(r, p, i);
    }

    int checkpoint(int r) {
        return next().checkpoint(r);
    }

    int value(int r, int k) {
        return next().value(r, k);
    }

    int status(int t) {
        return next().status(t);
    }

    int logged(int r, int i) {
        return next().logged(r, i);
    }

    int admitted(int r, int p) {
        return next().admitted(r, p);
    }

    int finished(int r, int p) {
        return next().finished(r, p);
    }

    int ready(int r, int p) {
        return next().ready(r, p);
    }

    int locks(int r, int k) {
        return next().locks(r, k);
    }

    int stored(int l, int s, int e) {
        return next().stored(l, s, e);
    }
}
