import java.util.ArrayList;
import java.util.List;

/** What the calls that show the state answer, told as texts, so that two states can be compared. */
final class Shown {
    private final Counted x;
    private final List<String> answers = new ArrayList<>();

    private Shown(Counted x) {
        this.x = x;
    }

    static List<String> of(Counted x) {
        Shown shown = new Shown(x);
        shown.showMessages();
        shown.showTransactions();
        shown.showLogs();
        shown.showKeys();
        shown.showPartitions();
        shown.showStored();
        return shown.answers;
    }

    /** The codes of all messages under way. */
    static List<String> messagesOf(Counted x) {
        Shown shown = new Shown(x);
        shown.showMessages();
        return shown.answers;
    }

    private int add(String call, int answer) {
        answers.add(call + " answered " + answer);
        return answer;
    }

    private void showMessages() {
        int count = add("messages()", x.messages());
        for (int i = 0; i <= count; i++) {
            add("message(" + i + ")", x.message(i));
        }
    }

    private void showTransactions() {
        for (int t = 0; add("status(" + t + ")", x.status(t)) != Steps.NONE; t++) {
        }
    }

    private void showLogs() {
        for (int r = 0; r < 2; r++) {
            for (int i = 0; add("logged(" + r + ", " + i + ")", x.logged(r, i)) != Steps.NONE; i++) {
            }
        }
    }

    private void showKeys() {
        for (int r = 0; r < 2; r++) {
            for (int k = 0; k < 12; k++) {
                add("value(" + r + ", " + k + ")", x.value(r, k));
                add("locks(" + r + ", " + k + ")", x.locks(r, k));
            }
        }
    }

    private void showPartitions() {
        for (int r = 0; r < 2; r++) {
            for (int p = 0; p < 4; p++) {
                add("admitted(" + r + ", " + p + ")", x.admitted(r, p));
                add("finished(" + r + ", " + p + ")", x.finished(r, p));
                add("ready(" + r + ", " + p + ")", x.ready(r, p));
            }
        }
    }

    private void showStored() {
        for (int s = 0; s < 2; s++) {
            for (int e = 0; add("stored(0, " + s + ", " + e + ")", x.stored(0, s, e)) != Steps.NONE; e++) {
                add("stored(1, " + s + ", " + e + ")", x.stored(1, s, e));
                add("stored(2, " + s + ", " + e + ")", x.stored(2, s, e));
            }
        }
    }
}
