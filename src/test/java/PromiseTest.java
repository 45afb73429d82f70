/** Each promise of the document by itself: ordinary inputs, named edges, wrong inputs. */
public final class PromiseTest {
    private static final int BAD_ARG = -1;
    private static final int FULL = -2;
    private static final int MIN = Integer.MIN_VALUE;
    private static final int MAX = Integer.MAX_VALUE;
    private static final int[] NO_REGISTER = {-1, 8, 9, 16, MIN, MAX};
    private static final int[] NO_ADDRESS = {-1, 16, 17, MIN, MAX};
    private static final int[] NO_OFFSET = {-9, -10, 16, 17, MIN, MAX};

    private static final Checks CHECKS = new Checks();

    public static void main(String[] args) {
        newObject();
        constant();
        add();
        subtract();
        load();
        loadFaults();
        store();
        storeFaults();
        leave();
        size();
        clear();
        setRegister();
        register();
        setWord();
        word();
        bar();
        run();
        runKeepsWhatItLeaves();
        last();
        repeat();
        repeatStops();
        CHECKS.finish("PromiseTest");
    }

    private static void due(String what, int got, int want) {
        CHECKS.due(what, got, want);
    }

    private static SpecLoadSched used() {
        return Fixtures.used();
    }

    private static SpecLoadSched full() {
        return Fixtures.full();
    }

    private static void newObject() {
        SpecLoadSched x = new SpecLoadSched();
        int[] want = new int[42];
        want[Checks.STATE_LAST] = -1;
        CHECKS.sameState("1: new object", x, want);
        due("1: run of a new object", x.run(), 0);
        SpecLoadSched other = used();
        CHECKS.holds("1: used object has registers", other.register(0) == 100);
        CHECKS.sameState("1: a new object beside a used one", new SpecLoadSched(), want);
    }

    private static void constant() {
        SpecLoadSched x = used();
        x.clear();
        due("2: first", x.constant(0, MIN), 0);
        due("2: second", x.constant(7, MAX), 1);
        due("2: third", x.constant(3, -5), 2);
        due("2: not executed when added", x.register(0), 100);
        due("2: run", x.run(), 0);
        due("2: register 0", x.register(0), MIN);
        due("2: register 7", x.register(7), MAX);
        due("2: register 3", x.register(3), -5);
        due("2: register 1", x.register(1), 101);
        SpecLoadSched open = used();
        SpecLoadSched full = full();
        int[] openState = Checks.stateOf(open);
        int[] fullState = Checks.stateOf(full);
        for (int d : NO_REGISTER) {
            due("2: constant " + d, open.constant(d, 1), BAD_ARG);
            due("2: full, constant " + d, full.constant(d, 1), BAD_ARG);
        }
        due("2: full", full.constant(7, 1), FULL);
        CHECKS.sameState("2: refused", open, openState);
        CHECKS.sameState("2: refused, full", full, fullState);
    }

    private static void add() {
        SpecLoadSched x = used();
        x.clear();
        x.setRegister(6, MAX);
        due("3: first", x.add(0, 1, 2), 0);
        due("3: uses the sum before", x.add(7, 0, 0), 1);
        due("3: wraps", x.add(6, 6, 6), 2);
        due("3: one beyond", x.add(5, 6, 1), 3);
        due("3: run", x.run(), 0);
        due("3: register 0", x.register(0), 203);
        due("3: register 7", x.register(7), 406);
        due("3: register 6", x.register(6), -2);
        due("3: register 5", x.register(5), 99);
        due("3: register 1", x.register(1), 101);
        due("3: register 2", x.register(2), 102);
        SpecLoadSched open = used();
        SpecLoadSched full = full();
        int[] openState = Checks.stateOf(open);
        int[] fullState = Checks.stateOf(full);
        for (int r : NO_REGISTER) {
            due("3: d " + r, open.add(r, 0, 0), BAD_ARG);
            due("3: a " + r, open.add(0, r, 0), BAD_ARG);
            due("3: b " + r, open.add(0, 0, r), BAD_ARG);
            due("3: full, d " + r, full.add(r, 0, 0), BAD_ARG);
            due("3: full, a " + r, full.add(0, r, 0), BAD_ARG);
            due("3: full, b " + r, full.add(0, 0, r), BAD_ARG);
        }
        due("3: full", full.add(7, 7, 7), FULL);
        CHECKS.sameState("3: refused", open, openState);
        CHECKS.sameState("3: refused, full", full, fullState);
    }

    private static void subtract() {
        SpecLoadSched x = used();
        x.clear();
        x.setRegister(6, MIN);
        due("4: first", x.subtract(0, 1, 4), 0);
        due("4: uses the difference before", x.subtract(7, 0, 2), 1);
        due("4: wraps", x.subtract(5, 6, 1), 2);
        due("4: itself", x.subtract(3, 3, 3), 3);
        due("4: of the least", x.subtract(4, 3, 6), 4);
        due("4: run", x.run(), 0);
        due("4: register 0", x.register(0), -3);
        due("4: register 7", x.register(7), -105);
        due("4: register 5", x.register(5), MAX - 100);
        due("4: register 3", x.register(3), 0);
        due("4: register 4", x.register(4), MIN);
        due("4: register 1", x.register(1), 101);
        SpecLoadSched open = used();
        SpecLoadSched full = full();
        int[] openState = Checks.stateOf(open);
        int[] fullState = Checks.stateOf(full);
        for (int r : NO_REGISTER) {
            due("4: d " + r, open.subtract(r, 0, 0), BAD_ARG);
            due("4: a " + r, open.subtract(0, r, 0), BAD_ARG);
            due("4: b " + r, open.subtract(0, 0, r), BAD_ARG);
            due("4: full, d " + r, full.subtract(r, 0, 0), BAD_ARG);
            due("4: full, a " + r, full.subtract(0, r, 0), BAD_ARG);
            due("4: full, b " + r, full.subtract(0, 0, r), BAD_ARG);
        }
        due("4: full", full.subtract(7, 7, 7), FULL);
        CHECKS.sameState("4: refused", open, openState);
        CHECKS.sameState("4: refused, full", full, fullState);
    }

    private static void load() {
        SpecLoadSched x = used();
        x.clear();
        x.setRegister(0, 0);
        x.setRegister(1, 8);
        x.setRegister(7, 23);
        x.setRegister(2, -15);
        due("5: greatest offset", x.load(3, 0, 15), 0);
        due("5: least offset", x.load(4, 1, -8), 1);
        due("5: from beyond", x.load(5, 7, -8), 2);
        due("5: from below", x.load(6, 2, 15), 3);
        due("5: into its own address register", x.load(7, 1, 1), 4);
        due("5: run", x.run(), 0);
        due("5: register 3", x.register(3), 215);
        due("5: register 4", x.register(4), 200);
        due("5: register 5", x.register(5), 215);
        due("5: register 6", x.register(6), 200);
        due("5: register 7", x.register(7), 209);
        due("5: register 1", x.register(1), 8);
        due("5: word 9", x.word(9), 209);
        SpecLoadSched open = used();
        SpecLoadSched full = full();
        int[] openState = Checks.stateOf(open);
        int[] fullState = Checks.stateOf(full);
        for (int i = 0; i < 6; i++) {
            int r = NO_REGISTER[i];
            int o = NO_OFFSET[i];
            due("5: d " + r, open.load(r, 0, 0), BAD_ARG);
            due("5: a " + r, open.load(0, r, 0), BAD_ARG);
            due("5: o " + o, open.load(0, 0, o), BAD_ARG);
            due("5: full, d " + r, full.load(r, 0, 0), BAD_ARG);
            due("5: full, a " + r, full.load(0, r, 0), BAD_ARG);
            due("5: full, o " + o, full.load(0, 0, o), BAD_ARG);
        }
        due("5: full", full.load(7, 7, 15), FULL);
        due("5: full, least offset", full.load(7, 7, -8), FULL);
        CHECKS.sameState("5: refused", open, openState);
        CHECKS.sameState("5: refused, full", full, fullState);
    }

    /** Base and offset of accesses whose address is none, wrapped ones among them. */
    private static final int[][] OUTSIDE = {
        {0, -1}, {7, -8}, {16, 0}, {1, 15}, {15, 1}, {24, -8}, {-16, 15}, {-1, 0},
        {MAX, 15}, {MAX, 1}, {MIN, -8}, {MIN, 15}, {MAX, -8}, {MIN, 0}, {MAX, 0},
        {65536, 0}, {256, 3}};

    private static void loadFaults() {
        for (int[] pair : OUTSIDE) {
            SpecLoadSched x = used();
            x.clear();
            x.setRegister(1, pair[0]);
            x.constant(2, 55);
            x.load(3, 1, pair[1]);
            x.constant(4, 66);
            String what = "5: load at " + pair[0] + " + " + pair[1];
            due(what, x.run(), 2 + 4);
            due(what + ", before it", x.register(2), 55);
            due(what + ", its register", x.register(3), 103);
            due(what + ", after it", x.register(4), 104);
        }
        SpecLoadSched x = used();
        x.clear();
        x.setRegister(1, 4);
        x.load(3, 1, 1);
        due("5: barred", x.run(), 2);
        due("5: barred, its register", x.register(3), 103);
        x.setRegister(1, 3);
        due("5: below the barred one", x.run(), 0);
        due("5: below the barred one, its register", x.register(3), 204);
        x.setRegister(1, 5);
        due("5: above the barred one", x.run(), 0);
        due("5: above the barred one, its register", x.register(3), 206);
    }

    private static void store() {
        SpecLoadSched x = used();
        x.clear();
        x.setRegister(0, 0);
        x.setRegister(1, 8);
        x.setRegister(7, 23);
        x.setRegister(2, -15);
        due("6: greatest offset", x.store(0, 15, 3), 0);
        due("6: least offset", x.store(1, -8, 4), 1);
        due("6: its own address register", x.store(1, 0, 1), 2);
        due("6: seen by a load", x.load(6, 0, 15), 3);
        due("6: from beyond", x.store(7, -8, 5), 4);
        due("6: from below", x.store(2, 15, 7), 5);
        due("6: not executed when added", x.word(15), 215);
        due("6: run", x.run(), 0);
        due("6: word 15", x.word(15), 105);
        due("6: word 0", x.word(0), 23);
        due("6: word 8", x.word(8), 8);
        due("6: register 6", x.register(6), 103);
        due("6: register 3", x.register(3), 103);
        due("6: word 1", x.word(1), 201);
        SpecLoadSched open = used();
        SpecLoadSched full = full();
        int[] openState = Checks.stateOf(open);
        int[] fullState = Checks.stateOf(full);
        for (int i = 0; i < 6; i++) {
            int r = NO_REGISTER[i];
            int o = NO_OFFSET[i];
            due("6: a " + r, open.store(r, 0, 0), BAD_ARG);
            due("6: s " + r, open.store(0, 0, r), BAD_ARG);
            due("6: o " + o, open.store(0, o, 0), BAD_ARG);
            due("6: full, a " + r, full.store(r, 0, 0), BAD_ARG);
            due("6: full, s " + r, full.store(0, 0, r), BAD_ARG);
            due("6: full, o " + o, full.store(0, o, 0), BAD_ARG);
        }
        due("6: full", full.store(7, 15, 7), FULL);
        due("6: full, least offset", full.store(7, -8, 7), FULL);
        CHECKS.sameState("6: refused", open, openState);
        CHECKS.sameState("6: refused, full", full, fullState);
    }

    private static void storeFaults() {
        for (int[] pair : OUTSIDE) {
            SpecLoadSched x = used();
            x.clear();
            x.setRegister(1, pair[0]);
            x.constant(2, 55);
            x.store(1, pair[1], 3);
            x.constant(4, 66);
            String what = "6: store at " + pair[0] + " + " + pair[1];
            due(what, x.run(), 2 + 4);
            due(what + ", before it", x.register(2), 55);
            due(what + ", after it", x.register(4), 104);
            for (int a = 0; a < 16; a++) {
                due(what + ", word " + a, x.word(a), 200 + a);
            }
        }
        SpecLoadSched x = used();
        x.clear();
        x.setRegister(1, 4);
        x.store(1, 1, 3);
        due("6: barred", x.run(), 2);
        due("6: barred, its word", x.word(5), 205);
        x.setRegister(1, 3);
        due("6: below the barred one", x.run(), 0);
        due("6: below the barred one, its word", x.word(4), 103);
        x.setRegister(1, 5);
        due("6: above the barred one", x.run(), 0);
        due("6: above the barred one, its word", x.word(6), 103);
    }

    private static void leave() {
        SpecLoadSched x = used();
        x.clear();
        due("7: first", x.leave(7), 0);
        due("7: second", x.leave(0), 1);
        due("7: behind it", x.constant(3, 9), 2);
        due("7: leaves at the first", x.run(), 1);
        x.setRegister(7, 0);
        due("7: leaves at the second", x.run(), 1 + 4);
        due("7: behind it, not executed", x.register(3), 103);
        due("7: register kept", x.register(0), 100);
        for (int v : new int[] {1, -1, MIN, MAX, 256, 65536}) {
            x.setRegister(0, v);
            due("7: leaves at " + v, x.run(), 1 + 4);
        }
        x.setRegister(0, 0);
        due("7: does not leave", x.run(), 0);
        due("7: behind it, executed", x.register(3), 9);
        SpecLoadSched open = used();
        SpecLoadSched full = full();
        int[] openState = Checks.stateOf(open);
        int[] fullState = Checks.stateOf(full);
        for (int a : NO_REGISTER) {
            due("7: leave " + a, open.leave(a), BAD_ARG);
            due("7: full, leave " + a, full.leave(a), BAD_ARG);
        }
        due("7: full", full.leave(7), FULL);
        CHECKS.sameState("7: refused", open, openState);
        CHECKS.sameState("7: refused, full", full, fullState);
    }

    private static void size() {
        SpecLoadSched x = new SpecLoadSched();
        due("8: none", x.size(), 0);
        x.constant(0, 0);
        due("8: constant", x.size(), 1);
        x.add(0, 0, 0);
        due("8: add", x.size(), 2);
        x.subtract(0, 0, 0);
        due("8: subtract", x.size(), 3);
        x.load(0, 0, 0);
        due("8: load", x.size(), 4);
        x.store(0, 0, 0);
        due("8: store", x.size(), 5);
        x.leave(0);
        due("8: leave", x.size(), 6);
        x.leave(8);
        due("8: refused", x.size(), 6);
        x.run();
        due("8: after a run", x.size(), 6);
        for (int i = 6; i < 14; i++) {
            due("8: number " + i, x.leave(0), i);
            due("8: size after number " + i, x.size(), i + 1);
        }
        due("8: a fifteenth", x.leave(0), FULL);
        due("8: after a fifteenth", x.size(), 14);
    }

    private static void clear() {
        SpecLoadSched x = full();
        int[] want = Checks.stateOf(x);
        x.clear();
        want[Checks.STATE_SIZE] = 0;
        CHECKS.sameState("9: only the instructions go", x, want);
        due("9: run", x.run(), 0);
        due("9: registers after the run", x.register(0), 100);
        due("9: numbered from 0 again", x.add(1, 2, 3), 0);
        due("9: then 1", x.constant(5, 6), 1);
        due("9: the new program", x.run(), 0);
        due("9: its sum", x.register(1), 205);
        due("9: none of the old ones", x.register(0), 100);
        x.clear();
        x.clear();
        due("9: cleared twice", x.size(), 0);
        for (int i = 0; i < 14; i++) {
            due("9: room for number " + i, x.constant(0, i), i);
        }
        due("9: and no more", x.constant(0, 0), FULL);
    }

    private static void setRegister() {
        SpecLoadSched x = used();
        due("10: register 0", x.setRegister(0, MIN), 0);
        due("10: register 7", x.setRegister(7, MAX), 0);
        due("10: register 0 is", x.register(0), MIN);
        due("10: register 7 is", x.register(7), MAX);
        due("10: register 0 again", x.setRegister(0, -1), 0);
        due("10: register 0 is then", x.register(0), -1);
        for (int r = 1; r < 7; r++) {
            due("10: register kept " + r, x.register(r), 100 + r);
        }
        due("10: word kept", x.word(0), 200);
        int[] want = Checks.stateOf(x);
        for (int r : NO_REGISTER) {
            due("10: register " + r, x.setRegister(r, 3), BAD_ARG);
        }
        CHECKS.sameState("10: refused", x, want);
    }

    private static void register() {
        SpecLoadSched x = used();
        for (int r = 0; r < 8; r++) {
            due("11: register " + r, x.register(r), 100 + r);
        }
        for (int r : NO_REGISTER) {
            due("11: register " + r, x.register(r), 0);
        }
    }

    private static void setWord() {
        SpecLoadSched x = used();
        due("12: word 0", x.setWord(0, MIN), 0);
        due("12: word 15", x.setWord(15, MAX), 0);
        due("12: barred word", x.setWord(5, -7), 0);
        due("12: word 0 is", x.word(0), MIN);
        due("12: word 15 is", x.word(15), MAX);
        due("12: barred word is", x.word(5), -7);
        due("12: still barred", x.bar(5, 1), 1);
        for (int a : new int[] {1, 2, 3, 4, 6, 7, 8, 9, 10, 11, 12, 13, 14}) {
            due("12: word kept " + a, x.word(a), 200 + a);
        }
        due("12: register kept", x.register(0), 100);
        int[] want = Checks.stateOf(x);
        for (int a : NO_ADDRESS) {
            due("12: word " + a, x.setWord(a, 3), BAD_ARG);
        }
        CHECKS.sameState("12: refused", x, want);
    }

    private static void word() {
        SpecLoadSched x = used();
        x.bar(0, 1);
        x.bar(15, 1);
        for (int a = 0; a < 16; a++) {
            due("13: word " + a, x.word(a), 200 + a);
        }
        for (int a : NO_ADDRESS) {
            due("13: word " + a, x.word(a), 0);
        }
    }

    private static void bar() {
        SpecLoadSched x = new SpecLoadSched();
        for (int a = 0; a < 16; a++) {
            due("14: open before " + a, x.bar(a, 1), 0);
            due("14: barred before " + a, x.bar(a, 1), 1);
        }
        for (int a = 0; a < 16; a++) {
            due("14: opened " + a, x.bar(a, 0), 1);
            due("14: opened again " + a, x.bar(a, 0), 0);
        }
        for (int on : new int[] {2, -1, MIN, MAX, 256, 65536}) {
            due("14: bars with " + on, x.bar(3, on), 0);
            due("14: barred with " + on, x.bar(3, 0), 1);
        }
        x.load(1, 0, 15);
        x.bar(15, -4);
        due("14: load of a barred one", x.run(), 2);
        x.bar(15, 0);
        due("14: load of an opened one", x.run(), 0);
        SpecLoadSched refusing = used();
        int[] want = Checks.stateOf(refusing);
        for (int a : NO_ADDRESS) {
            due("14: bar " + a, refusing.bar(a, 1), BAD_ARG);
            due("14: open " + a, refusing.bar(a, 0), BAD_ARG);
        }
        CHECKS.sameState("14: refused", refusing, want);
    }

    private static void run() {
        for (int at = 0; at < 14; at++) {
            SpecLoadSched leaving = new SpecLoadSched();
            SpecLoadSched faulting = new SpecLoadSched();
            faulting.bar(0, 1);
            leaving.setRegister(1, 1);
            faulting.setRegister(1, 1);
            for (int i = 0; i < 14; i++) {
                if (i == at) {
                    leaving.leave(1);
                    faulting.load(3, 0, 0);
                } else {
                    leaving.add(2, 2, 1);
                    faulting.add(2, 2, 1);
                }
            }
            due("15: leaves at " + at, leaving.run(), 1 + 4 * at);
            due("15: executed before leaving at " + at, leaving.register(2), at);
            due("15: faults at " + at, faulting.run(), 2 + 4 * at);
            due("15: executed before the fault at " + at, faulting.register(2), at);
        }
        SpecLoadSched x = new SpecLoadSched();
        due("15: no instruction", x.run(), 0);
        x.constant(1, 1);
        for (int i = 1; i < 14; i++) {
            x.add(1, 1, 1);
        }
        due("15: all fourteen", x.run(), 0);
        due("15: executed in order", x.register(1), 8192);
    }

    private static void runKeepsWhatItLeaves() {
        SpecLoadSched x = new SpecLoadSched();
        x.setRegister(1, 1);
        x.setRegister(4, 3);
        x.load(2, 0, 6);
        x.add(2, 2, 1);
        x.store(0, 6, 2);
        x.subtract(3, 2, 4);
        x.load(5, 3, 3);
        due("15: first run", x.run(), 0);
        due("15: word after the first run", x.word(6), 1);
        due("15: second run", x.run(), 0);
        due("15: word after the second run", x.word(6), 2);
        x.bar(3, 1);
        due("15: third run faults late", x.run(), 2 + 4 * 4);
        due("15: what stood before the fault stays", x.word(6), 3);
        due("15: and the register", x.register(3), 0);
        x.bar(6, 1);
        due("15: fourth run faults early", x.run(), 2);
        due("15: and changes nothing", x.word(6), 3);
        due("15: nor the register", x.register(2), 3);
    }

    private static void last() {
        SpecLoadSched x = new SpecLoadSched();
        due("16: no run", x.last(), -1);
        due("16: repeat of none", x.repeat(0), 0);
        due("16: repeat of less than none", x.repeat(-3), 0);
        due("16: still no run", x.last(), -1);
        x.constant(0, 16);
        x.load(1, 0, 0);
        due("16: no run, but a program", x.last(), -1);
        due("16: run", x.run(), 6);
        due("16: a fault", x.last(), 6);
        due("16: asked twice", x.last(), 6);
        x.repeat(0);
        due("16: after a repeat of none", x.last(), 6);
        x.clear();
        due("16: after clear", x.last(), 6);
        x.leave(1);
        x.setRegister(1, 1);
        x.constant(8, 0);
        due("16: after other calls", x.last(), 6);
        due("16: repeat", x.repeat(2), 1);
        due("16: left in a repeat", x.last(), 1);
        x.setRegister(1, 0);
        due("16: repeat twice", x.repeat(2), 2);
        due("16: fell through in a repeat", x.last(), 0);
    }

    private static void repeat() {
        int[] asked = {MIN, -1, 0, 1, 2, 7, 8, 9, 10, MAX};
        int[] done = {0, 0, 0, 1, 2, 7, 8, 8, 8, 8};
        for (int i = 0; i < asked.length; i++) {
            SpecLoadSched x = new SpecLoadSched();
            due("17: empty program, repeat " + asked[i], x.repeat(asked[i]), done[i]);
            due("17: empty program, last", x.last(), done[i] == 0 ? -1 : 0);
            x.setRegister(1, 1);
            x.add(2, 2, 1);
            due("17: repeat " + asked[i], x.repeat(asked[i]), done[i]);
            due("17: runs of repeat " + asked[i], x.register(2), done[i]);
        }
    }

    private static void repeatStops() {
        for (int runs = 1; runs <= 9; runs++) {
            SpecLoadSched x = new SpecLoadSched();
            x.setRegister(1, 1);
            x.setRegister(3, runs);
            x.setRegister(4, 16 - runs);
            x.add(2, 2, 1);
            x.add(4, 4, 1);
            x.load(5, 4, 0);
            int due = runs > 8 ? 8 : runs;
            due("17: stops at the fault of run " + runs, x.repeat(100), due);
            due("17: runs before the fault " + runs, x.register(2), due);
            due("17: last of them " + runs, x.last(), runs > 8 ? 0 : 2 + 4 * 2);
        }
        SpecLoadSched x = new SpecLoadSched();
        x.leave(2);
        x.constant(2, 1);
        due("17: leaves in the second run", x.repeat(5), 2);
        due("17: left", x.last(), 1);
        due("17: leaves in the first run", x.repeat(5), 1);
        due("17: none asked", x.repeat(0), 0);
    }
}
