import java.util.ArrayList;
import java.util.List;

/**
 * What calls that change the state answer, told as texts: they bring to light what no call shows by
 * itself, as what an open batch holds, what is proposed or promised, and what a checkpoint holds.
 */
final class Next {
    private static final int MOST_DELIVERED = 120;

    private final Counted x;
    private final List<String> answers = new ArrayList<>();

    private Next(Counted x) {
        this.x = x;
    }

    /** Every message arrives, both batches are filled and closed, and the slots are sent again. */
    static List<String> ofSequencers(Counted x) {
        Next next = new Next(x);
        next.deliverAll();
        for (int s = 0; s < 2; s++) {
            for (int i = 0; i < 7; i++) {
                next.add("submit to " + s, x.submit(s, Steps.SET, 0, 0, 9));
            }
            next.add("close(" + s + ")", x.close(s));
            for (int e = 0; next.add("resend(" + s + ", " + e + ")", x.resend(s, e)) != Steps.NONE; e++) {
            }
        }
        next.answers.addAll(Shown.messagesOf(x));
        return next.answers;
    }

    /** Every node goes down and comes up again. */
    static List<String> ofNodes(Counted x) {
        Next next = new Next(x);
        for (int node = 0; node <= 6; node++) {
            next.add("crash(" + node + ")", x.crash(node) ? 1 : 0);
        }
        for (int node = 0; node <= 6; node++) {
            next.add("restart(" + node + ")", x.restart(node) ? 1 : 0);
        }
        next.answers.addAll(Shown.of(x));
        return next.answers;
    }

    /** Every partition looks and admits as far as it can, and every message arrives. */
    static List<String> ofReplicas(Counted x) {
        Next next = new Next(x);
        for (int r = 0; r < 2; r++) {
            for (int p = 0; p < 4; p++) {
                next.lookAndAdmit(r, p);
            }
        }
        next.deliverAll();
        for (int r = 0; r < 2; r++) {
            next.add("checkpoint(" + r + ")", x.checkpoint(r));
            for (int k = 0; k < 12; k++) {
                next.add("value(" + r + ", " + k + ")", x.value(r, k));
            }
        }
        return next.answers;
    }

    private void lookAndAdmit(int r, int p) {
        for (int i = 0; i < 12 && add("look(" + r + ", " + p + ", 0)", x.look(r, p, 0)) != Steps.NONE; i++) {
        }
        for (int i = 0; i < 12 && add("admit(" + r + ", " + p + ")", x.admit(r, p)) != Steps.NONE; i++) {
        }
    }

    private void deliverAll() {
        for (int i = 0; i < MOST_DELIVERED && add("deliver(0)", x.deliver(0) ? 1 : 0) == 1; i++) {
        }
    }

    private int add(String call, int answer) {
        answers.add("next, " + call + " answered " + answer);
        return answer;
    }
}
