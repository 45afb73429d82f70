/** Objects in states in which a change that should not have come can be seen. */
final class Fixtures {
    static final int CAPACITY = 14;
    static final int TRACED_ANSWER = 1 + 4 * 13;

    private Fixtures() {
    }

    /** Registers and words that are all different and none 0, one bar, no instruction, no run. */
    static SpecLoadSched marked() {
        SpecLoadSched x = new SpecLoadSched();
        for (int r = 0; r < 8; r++) {
            x.setRegister(r, 100 + r);
        }
        for (int a = 0; a < 16; a++) {
            x.setWord(a, 200 + a);
        }
        x.bar(5, 1);
        return x;
    }

    /** As marked, with one instruction and a run that left there. */
    static SpecLoadSched used() {
        SpecLoadSched x = marked();
        x.leave(0);
        x.run();
        return x;
    }

    static SpecLoadSched full() {
        SpecLoadSched x = used();
        for (int i = 1; i < CAPACITY; i++) {
            x.constant(0, 1);
        }
        return x;
    }

    /** As marked, with a full program each instruction of which changes what a run leaves. */
    static SpecLoadSched traced() {
        SpecLoadSched x = marked();
        x.constant(0, 3);
        x.store(0, 0, 1);
        x.add(1, 1, 0);
        x.store(0, 1, 1);
        x.subtract(2, 2, 1);
        x.store(0, -3, 2);
        x.load(3, 0, 8);
        x.store(0, 4, 3);
        x.add(4, 3, 2);
        x.subtract(5, 4, 3);
        x.load(6, 0, 12);
        x.store(0, 9, 6);
        x.constant(7, -1);
        x.leave(7);
        return x;
    }

    /** Adds instructions that change nothing in a marked object. */
    static void pad(SpecLoadSched x, int instructions) {
        for (int i = 0; i < instructions; i++) {
            x.constant(7, 107);
        }
    }
}
