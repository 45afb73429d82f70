/** Counts and prints the answers that are not the ones that are due. */
final class Checks {
    static final int STATE_SIZE = 40;
    static final int STATE_LAST = 41;

    private int wrong = 0;
    private String sentence = "";

    /** Runs the test of one sentence of the document; a call that throws breaks it too. */
    void sentence(String text, Runnable test) {
        sentence = "[" + text + "] ";
        try {
            test.run();
        } catch (RuntimeException | Error thrown) {
            wrong++;
            System.out.println(sentence + "a call threw " + thrown);
        }
        sentence = "";
    }

    void due(String what, int got, int want) {
        if (got != want) {
            wrong++;
            System.out.println(sentence + what + " is " + got + ", due is " + want);
        }
    }

    void holds(String what, boolean truth) {
        if (!truth) {
            wrong++;
            System.out.println(sentence + "does not hold: " + what);
        }
    }

    /** Registers, words, bars, size and last answer; opens and bars again to read a bar. */
    static int[] stateOf(SpecLoadSched x) {
        int[] state = new int[8 + 16 + 16 + 2];
        int at = 0;
        for (int r = 0; r < 8; r++) {
            state[at++] = x.register(r);
        }
        for (int a = 0; a < 16; a++) {
            state[at++] = x.word(a);
        }
        for (int a = 0; a < 16; a++) {
            int barred = x.bar(a, 0);
            x.bar(a, barred);
            state[at++] = barred;
        }
        state[at++] = x.size();
        state[at] = x.last();
        return state;
    }

    void sameState(String what, SpecLoadSched x, int[] want) {
        int[] got = stateOf(x);
        for (int i = 0; i < want.length; i++) {
            due(what + ", state " + i, got[i], want[i]);
        }
    }

    void finish(String name) {
        System.out.println(name + ": " + (wrong == 0 ? "all as due" : wrong + " not as due"));
        if (wrong != 0) {
            System.exit(1);
        }
    }
}
