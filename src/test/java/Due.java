import java.util.List;

/** Counts the answers that are not as due; a test ends with exit code 1 if there was one. */
final class Due {
    private static final int MOST_PRINTED = 20;

    private final String test;
    private int asked = 0;
    private int wrong = 0;

    Due(String test) {
        this.test = test;
    }

    void is(String call, int got, int want) {
        asked++;
        if (got != want) {
            wrong(call + " answered " + got + ", due is " + want);
        }
    }

    void is(String call, boolean got, boolean want) {
        is(call, got ? 1 : 0, want ? 1 : 0);
    }

    /** Compares answers told as texts, and prints the first that differs. */
    void same(String after, List<String> got, List<String> want) {
        asked++;
        if (got.equals(want)) {
            return;
        }
        int i = 0;
        while (i < got.size() && i < want.size() && got.get(i).equals(want.get(i))) {
            i++;
        }
        wrong(after + ": " + at(got, i) + ", due is " + at(want, i));
    }

    boolean hasWrong() {
        return wrong > 0;
    }

    void end() {
        System.out.println(test + ": " + asked + " answers, " + wrong + " not as due");
        if (wrong > 0) {
            System.exit(1);
        }
    }

    private void wrong(String what) {
        wrong++;
        if (wrong <= MOST_PRINTED) {
            System.out.println(test + ": " + what);
        }
    }

    private static String at(List<String> answers, int i) {
        return i < answers.size() ? answers.get(i) : "nothing more";
    }
}
