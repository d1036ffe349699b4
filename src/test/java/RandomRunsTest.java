import java.util.Random;

/** Every promise: runs of 512 calls, the same ones each time, whose answers must be those of Model. */
public final class RandomRunsTest {
    private static final int RUNS = 4000;
    private static final int CALLS = 512;
    private static final int LAST_LOOK = 90;

    private final Due due;
    private final int run;
    private final Random random;
    private final int partitions;
    private final SequencedBatches x;
    private final Model model;
    // How a run goes: how often, of 100 calls, and whether messages arrive in order.
    private final int queries;
    private final int crashes;
    private final int drops;
    private final int resends;
    private final int executions;
    private final boolean inOrder;
    private final int keys;
    private int submitted = 0;

    private RandomRunsTest(Due due, int run) {
        this.due = due;
        this.run = run;
        random = new Random(run);
        int asked = random.nextInt(6);
        partitions = Math.max(1, Math.min(4, asked));
        x = new SequencedBatches(asked);
        model = new Model(asked);
        queries = random.nextInt(3) * 8;
        crashes = random.nextInt(3) * 3;
        drops = random.nextInt(3) * 4;
        resends = random.nextInt(4) == 0 ? 25 : 3;
        executions = 20 + random.nextInt(30);
        inOrder = random.nextBoolean();
        keys = random.nextBoolean() ? 12 : 4;
    }

    public static void main(String[] args) {
        Due due = new Due("RandomRunsTest");
        for (int run = 0; run < RUNS && !due.hasWrong(); run++) {
            new RandomRunsTest(due, run).go();
        }
        due.end();
    }

    private void go() {
        int calls = 0;
        for (int rounds = random.nextInt(4); rounds > 0; rounds--) {
            calls += decideTwoSlots();
        }
        for (; calls < CALLS - LAST_LOOK && !due.hasWrong(); calls++) {
            step();
        }
        for (int i = 0; i < LAST_LOOK && !due.hasWrong(); i++) {
            query();
        }
    }

    /** Without it most runs would end with a log too short for transactions to meet. */
    private int decideTwoSlots() {
        int submits = 1 + random.nextInt(12);
        for (int i = 0; i < submits; i++) {
            submit(i % 2);
        }
        for (int s = 0; s < 2; s++) {
            is("close(" + s + ")", x.close(s), model.close(s));
        }
        for (int i = 0; i < 16; i++) {
            is("deliver(0)", x.deliver(0), model.deliver(0));
        }
        return submits + 18;
    }

    private void step() {
        int dice = random.nextInt(100);
        if ((dice -= queries) < 0) {
            query();
        } else if ((dice -= crashes) < 0) {
            crashOrRestart();
        } else if ((dice -= drops) < 0) {
            int i = messageNumber();
            is("drop(" + i + ")", x.drop(i), model.drop(i));
        } else if ((dice -= resends) < 0) {
            int s = near(2);
            int e = near(random.nextInt(3) == 0 ? 20 : 4);
            is("resend(" + s + ", " + e + ")", x.resend(s, e), model.resend(s, e));
        } else if ((dice -= executions) < 0) {
            execute();
        } else if (random.nextInt(100) < 30) {
            sequence();
        } else {
            int i = messageNumber();
            is("deliver(" + i + ")", x.deliver(i), model.deliver(i));
        }
    }

    private void crashOrRestart() {
        int node = near(7);
        if (random.nextInt(5) < 2) {
            is("crash(" + node + ")", x.crash(node), model.crash(node));
        } else {
            is("restart(" + node + ")", x.restart(node), model.restart(node));
        }
    }

    private void sequence() {
        int s = near(2);
        if (random.nextInt(5) < 2) {
            is("close(" + s + ")", x.close(s), model.close(s));
        } else {
            submit(s);
        }
    }

    private void submit(int s) {
        int kind = near(6);
        int a = near(keys);
        int b = near(keys);
        int n = number(kind);
        String call = "submit(" + s + ", " + kind + ", " + a + ", " + b + ", " + n + ")";
        int t = model.submit(s, kind, a, b, n);
        is(call, x.submit(s, kind, a, b, n), t);
        submitted = Math.max(submitted, t + 1);
    }

    private int number(int kind) {
        if (kind == Steps.SUM) {
            return near(keys);
        }
        switch (random.nextInt(8)) {
            case 0: return random.nextInt();
            case 1: return -random.nextInt(50);
            case 2: return 100;
            default: return random.nextInt(150);
        }
    }

    private void execute() {
        int r = near(2);
        int p = near(partitions);
        int dice = random.nextInt(20);
        if (dice == 0) {
            is("checkpoint(" + r + ")", x.checkpoint(r), model.checkpoint(r));
        } else if (dice < 11) {
            is("admit(" + r + ", " + p + ")", x.admit(r, p), model.admit(r, p));
        } else {
            int i = random.nextInt(3) == 0 ? near(4) : 0;
            is("look(" + r + ", " + p + ", " + i + ")", x.look(r, p, i), model.look(r, p, i));
        }
    }

    private void query() {
        int r = near(2);
        int p = near(partitions);
        int k = near(12);
        int t = near(submitted + 1);
        int i = messageNumber();
        switch (random.nextInt(10)) {
            case 0: is("messages()", x.messages(), model.messages()); break;
            case 1: is("message(" + i + ")", x.message(i), model.message(i)); break;
            case 2: is("value(" + r + ", " + k + ")", x.value(r, k), model.value(r, k)); break;
            case 3: is("status(" + t + ")", x.status(t), model.status(t)); break;
            case 4: is("logged(" + r + ", " + t + ")", x.logged(r, t), model.logged(r, t)); break;
            case 5: is("admitted(" + r + ", " + p + ")", x.admitted(r, p), model.admitted(r, p)); break;
            case 6: is("finished(" + r + ", " + p + ")", x.finished(r, p), model.finished(r, p)); break;
            case 7: is("ready(" + r + ", " + p + ")", x.ready(r, p), model.ready(r, p)); break;
            case 8: is("locks(" + r + ", " + k + ")", x.locks(r, k), model.locks(r, k)); break;
            default: queryStored(); break;
        }
    }

    private void queryStored() {
        int l = near(3);
        int s = near(2);
        int e = near(6);
        is("stored(" + l + ", " + s + ", " + e + ")", x.stored(l, s, e), model.stored(l, s, e));
    }

    /** Mostly a number from 0 below the bound, now and then one outside it. */
    private int near(int bound) {
        switch (random.nextInt(60)) {
            case 0: return -1;
            case 1: return bound;
            case 2: return random.nextInt();
            default: return random.nextInt(bound);
        }
    }

    private int messageNumber() {
        return inOrder && random.nextInt(10) != 0 ? 0 : near(Math.max(1, model.messages()));
    }

    private void is(String call, int got, int want) {
        due.is("run " + run + ": " + call, got, want);
    }

    private void is(String call, boolean got, boolean want) {
        due.is("run " + run + ": " + call, got, want);
    }
}
