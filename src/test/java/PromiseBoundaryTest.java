/** Each sentence of the promises 1 to 17 that names a boundary has a test of its own here. */
public final class PromiseBoundaryTest {
    private static final int BAD_ARG = -1;
    private static final int FULL = -2;
    private static final int CAPACITY = Fixtures.CAPACITY;
    private static final int MIN = Integer.MIN_VALUE;
    private static final int MAX = Integer.MAX_VALUE;
    private static final int[] NOT_ZERO = {MIN, -65536, -256, -1, 1, 2, 256, 65536, MAX};

    private static final Checks CHECKS = new Checks();

    public static void main(String[] args) {
        CHECKS.sentence("1: All registers and words are 0, all addresses open, no instruction, "
            + "no run yet", PromiseBoundaryTest::newObject);
        instructions("2", Kind.CONSTANT);
        instructions("3", Kind.ADD);
        instructions("4", Kind.SUBTRACT);
        instructions("5", Kind.LOAD);
        instructions("6", Kind.STORE);
        instructions("7", Kind.LEAVE);
        effects();
        CHECKS.sentence("8: The number of instructions", PromiseBoundaryTest::size);
        CHECKS.sentence("9: Removes all instructions", PromiseBoundaryTest::clear);
        CHECKS.sentence("9: Registers, memory and bars stay", PromiseBoundaryTest::clearKeeps);
        machine();
        runs();
        CHECKS.finish("PromiseBoundaryTest");
    }

    private static void instructions(String promise, Kind kind) {
        String about = promise + ", " + kind.text() + ": ";
        CHECKS.sentence(about + "in its range answers the number of the new instruction",
            () -> acceptsItsRange(kind));
        CHECKS.sentence(about + "not in its range answers BAD_ARG",
            () -> refusesBeyond(kind));
        CHECKS.sentence(about + "FULL", () -> refusesWhenFull(kind));
        CHECKS.sentence(about + "tested in this order: BAD_ARG before FULL",
            () -> testsInOrder(kind));
    }

    private static void effects() {
        CHECKS.sentence("2: constant d v with each register", PromiseBoundaryTest::constant);
        CHECKS.sentence("3: add d a b with each register", PromiseBoundaryTest::add);
        CHECKS.sentence("4: subtract d a b with each register", PromiseBoundaryTest::subtract);
        CHECKS.sentence("5: load d a o with each register", PromiseBoundaryTest::load);
        CHECKS.sentence("6: store a o s with each register", PromiseBoundaryTest::store);
        CHECKS.sentence("7: leave a with each register", PromiseBoundaryTest::leave);
    }

    private static void machine() {
        CHECKS.sentence("10: Register r becomes v, answers 0", PromiseBoundaryTest::setRegister);
        CHECKS.sentence("10: BAD_ARG if r is not 0 to 7", PromiseBoundaryTest::setNoRegister);
        CHECKS.sentence("11: Register r", PromiseBoundaryTest::register);
        CHECKS.sentence("11: 0 if r is not 0 to 7", PromiseBoundaryTest::noRegister);
        CHECKS.sentence("12: The memory word at x becomes v, answers 0",
            PromiseBoundaryTest::setWord);
        CHECKS.sentence("12: Also if x is barred", PromiseBoundaryTest::setBarredWord);
        CHECKS.sentence("12: BAD_ARG if x is not 0 to 15", PromiseBoundaryTest::setNoWord);
        CHECKS.sentence("13: The memory word at x", PromiseBoundaryTest::word);
        CHECKS.sentence("13: Also if x is barred", PromiseBoundaryTest::barredWord);
        CHECKS.sentence("13: 0 if x is not 0 to 15", PromiseBoundaryTest::noWord);
        CHECKS.sentence("14: Bars (on not 0) or opens (on 0)", PromiseBoundaryTest::bar);
        CHECKS.sentence("14: BAD_ARG if x is not 0 to 15", PromiseBoundaryTest::barNone);
        CHECKS.sentence("14: 1 if it was barred before, else 0", PromiseBoundaryTest::barBefore);
    }

    private static void runs() {
        CHECKS.sentence("15: FELL_THROUGH", PromiseBoundaryTest::runFallsThrough);
        CHECKS.sentence("15: LEFT or FAULTED plus 4 times the number",
            PromiseBoundaryTest::runEndsAtANumber);
        CHECKS.sentence("16: -1 if there was none", PromiseBoundaryTest::lastOfNone);
        CHECKS.sentence("16: What the last run answered", PromiseBoundaryTest::last);
        CHECKS.sentence("17: Runs the program n times", PromiseBoundaryTest::repeat);
        CHECKS.sentence("17: n below 0 becomes 0", PromiseBoundaryTest::repeatBelow);
        CHECKS.sentence("17: n above 8 becomes 8", PromiseBoundaryTest::repeatAbove);
        CHECKS.sentence("17: Stops after the first run that does not fall through",
            PromiseBoundaryTest::repeatStops);
    }

    private static void due(String what, int got, int want) {
        CHECKS.due(what, got, want);
    }

    private static void newObject() {
        int[] want = new int[Checks.STATE_LAST + 1];
        want[Checks.STATE_LAST] = -1;
        CHECKS.sameState("the first", new SpecLoadSched(), want);
        SpecLoadSched used = Fixtures.traced();
        used.run();
        SpecLoadSched x = new SpecLoadSched();
        CHECKS.sameState("beside a used one", x, want);
        CHECKS.holds("the used one stays", used.last() == Fixtures.TRACED_ANSWER);
        due("answer of its first run", x.run(), 0);
        SpecLoadSched y = new SpecLoadSched();
        for (int i = 0; i < CAPACITY; i++) {
            due("load at " + i, y.load(7, 0, i), i);
        }
        due("no address barred", y.run(), 0);
        y.clear();
        y.load(7, 0, 14);
        y.load(7, 0, 15);
        due("nor the last two", y.run(), 0);
    }

    private static SpecLoadSched withSize(int size) {
        SpecLoadSched x = Fixtures.marked();
        Fixtures.pad(x, size);
        return x;
    }

    private static void acceptsItsRange(Kind kind) {
        for (int operand = 0; operand < kind.operands(); operand++) {
            for (int value : kind.within(operand)) {
                int[] operands = kind.with(operand, value);
                for (int size : new int[] {0, 1, 12, 13}) {
                    SpecLoadSched x = withSize(size);
                    due(kind.text(operands), kind.addTo(x, operands), size);
                    due(kind.text(operands) + ", size", x.size(), size + 1);
                }
            }
        }
    }

    private static void refusesBeyond(Kind kind) {
        for (int operand = 0; operand < kind.operands(); operand++) {
            for (int value : kind.beyond(operand)) {
                int[] operands = kind.with(operand, value);
                for (int size : new int[] {0, 1, 12, 13}) {
                    SpecLoadSched x = withSize(size);
                    due(kind.text(operands), kind.addTo(x, operands), BAD_ARG);
                    due(kind.text(operands) + ", size", x.size(), size);
                }
            }
        }
        for (int value : new int[] {MIN, -9, 16, MAX}) {
            int[] operands = {value, value, value};
            due(kind.text(operands), kind.addTo(new SpecLoadSched(), operands), BAD_ARG);
        }
    }

    private static void refusesWhenFull(Kind kind) {
        for (int operand = 0; operand < kind.operands(); operand++) {
            for (int value : kind.within(operand)) {
                int[] operands = kind.with(operand, value);
                SpecLoadSched x = withSize(CAPACITY - 1);
                due(kind.text(operands) + " as the last", kind.addTo(x, operands), CAPACITY - 1);
                due(kind.text(operands) + " when full", kind.addTo(x, operands), FULL);
                x.clear();
                due(kind.text(operands) + " when cleared", kind.addTo(x, operands), 0);
            }
        }
    }

    private static void testsInOrder(Kind kind) {
        for (int operand = 0; operand < kind.operands(); operand++) {
            for (int value : kind.beyond(operand)) {
                int[] operands = kind.with(operand, value);
                SpecLoadSched x = withSize(CAPACITY);
                due(kind.text(operands) + " when full", kind.addTo(x, operands), BAD_ARG);
                due(kind.text(operands) + ", size", x.size(), CAPACITY);
            }
            for (int end : new int[] {kind.least(operand), kind.greatest(operand)}) {
                int[] operands = kind.with(operand, end);
                SpecLoadSched x = withSize(CAPACITY);
                due(kind.text(operands) + " when full", kind.addTo(x, operands), FULL);
            }
        }
    }

    /** Runs the one instruction of x, which must change this part of the state alone. */
    private static void changes(String what, SpecLoadSched x, int part, int value) {
        int[] want = Checks.stateOf(x);
        want[part] = value;
        want[Checks.STATE_LAST] = 0;
        due(what, x.run(), 0);
        CHECKS.sameState(what, x, want);
    }

    private static void constant() {
        for (int d = 0; d < 8; d++) {
            for (int v : Kind.CONSTANT.within(1)) {
                SpecLoadSched x = Fixtures.marked();
                x.constant(d, v);
                changes(Kind.CONSTANT.text(d, v), x, d, v);
            }
        }
    }

    /** No two pairs of registers have the same sum, nor the same difference but 0. */
    private static SpecLoadSched withPowers() {
        SpecLoadSched x = Fixtures.marked();
        for (int r = 0; r < 8; r++) {
            x.setRegister(r, 1 << 3 * r);
        }
        return x;
    }

    private static void add() {
        for (int d = 0; d < 8; d++) {
            for (int a = 0; a < 8; a++) {
                for (int b = 0; b < 8; b++) {
                    SpecLoadSched x = withPowers();
                    x.add(d, a, b);
                    changes(Kind.ADD.text(d, a, b), x, d, (1 << 3 * a) + (1 << 3 * b));
                }
            }
        }
    }

    private static void subtract() {
        for (int d = 0; d < 8; d++) {
            for (int a = 0; a < 8; a++) {
                for (int b = 0; b < 8; b++) {
                    SpecLoadSched x = withPowers();
                    x.subtract(d, a, b);
                    changes(Kind.SUBTRACT.text(d, a, b), x, d, (1 << 3 * a) - (1 << 3 * b));
                }
            }
        }
    }

    /** Each offset at its first and its last address, with each pair of registers. */
    private static void load() {
        for (int o = -8; o <= 15; o++) {
            for (int at : new int[] {0, 15}) {
                for (int d = 0; d < 8; d++) {
                    for (int a = 0; a < 8; a++) {
                        SpecLoadSched x = Fixtures.marked();
                        x.setRegister(a, at - o);
                        x.load(d, a, o);
                        changes(Kind.LOAD.text(d, a, o), x, d, 200 + at);
                    }
                }
            }
        }
    }

    private static void store() {
        for (int o = -8; o <= 15; o++) {
            for (int at : new int[] {0, 15}) {
                for (int a = 0; a < 8; a++) {
                    for (int s = 0; s < 8; s++) {
                        SpecLoadSched x = Fixtures.marked();
                        x.setRegister(a, at - o);
                        x.store(a, o, s);
                        changes(Kind.STORE.text(a, o, s), x, 8 + at, s == a ? at - o : 100 + s);
                    }
                }
            }
        }
    }

    private static void leave() {
        for (int a = 0; a < 8; a++) {
            SpecLoadSched x = Fixtures.marked();
            x.leave(a);
            due("none 0, " + Kind.LEAVE.text(a), x.run(), 1);
            x.setRegister(a, 0);
            due("only it 0, " + Kind.LEAVE.text(a), x.run(), 0);
            SpecLoadSched y = new SpecLoadSched();
            y.leave(a);
            due("all 0, " + Kind.LEAVE.text(a), y.run(), 0);
            y.setRegister(a, -1);
            due("all but it 0, " + Kind.LEAVE.text(a), y.run(), 1);
        }
    }

    private static void size() {
        SpecLoadSched x = new SpecLoadSched();
        for (int i = 0; i < CAPACITY; i++) {
            due("before number " + i, x.size(), i);
            x.leave(8);
            due("after a refused one", x.size(), i);
            x.leave(7);
        }
        due("full", x.size(), CAPACITY);
        x.leave(7);
        due("after one too many", x.size(), CAPACITY);
        x.run();
        x.repeat(8);
        due("after runs", x.size(), CAPACITY);
        x.clear();
        due("cleared", x.size(), 0);
    }

    private static void clear() {
        for (int size = 0; size <= CAPACITY; size++) {
            SpecLoadSched x = Fixtures.marked();
            for (int i = 0; i < size; i++) {
                x.leave(6);
            }
            x.clear();
            due("size of " + size + " cleared", x.size(), 0);
            due("run of " + size + " cleared", x.run(), 0);
            x.clear();
            due("size of " + size + " cleared twice", x.size(), 0);
            for (int i = 0; i < CAPACITY; i++) {
                due("room after " + size, x.constant(0, i), i);
            }
            due("no more room after " + size, x.constant(0, 0), FULL);
            due("run of the new ones after " + size, x.run(), 0);
            due("the last of the new ones after " + size, x.register(0), CAPACITY - 1);
        }
    }

    private static void clearKeeps() {
        SpecLoadSched[] objects = {new SpecLoadSched(), Fixtures.marked(), Fixtures.used(),
            Fixtures.traced()};
        for (int i = 0; i < objects.length; i++) {
            objects[i].bar(0, 1);
            objects[i].bar(15, 1);
            int[] want = Checks.stateOf(objects[i]);
            want[Checks.STATE_SIZE] = 0;
            objects[i].clear();
            CHECKS.sameState("cleared object " + i, objects[i], want);
        }
    }

    private static void setRegister() {
        for (int r = 0; r < 8; r++) {
            SpecLoadSched x = Fixtures.used();
            int[] want = Checks.stateOf(x);
            for (int v : new int[] {MIN, -1, 0, 1, MAX}) {
                want[r] = v;
                due("register " + r + " to " + v, x.setRegister(r, v), 0);
                CHECKS.sameState("register " + r + " to " + v, x, want);
            }
        }
    }

    private static void setNoRegister() {
        for (int r : new int[] {-1, 8, -2, 9, 15, 16, MIN, MAX}) {
            SpecLoadSched x = Fixtures.used();
            int[] want = Checks.stateOf(x);
            due("register " + r, x.setRegister(r, 5), BAD_ARG);
            CHECKS.sameState("register " + r, x, want);
        }
    }

    private static void register() {
        SpecLoadSched x = Fixtures.marked();
        for (int r = 0; r < 8; r++) {
            due("register " + r, x.register(r), 100 + r);
            for (int v : new int[] {MIN, -1, 0, 1, MAX}) {
                x.setRegister(r, v);
                due("register " + r, x.register(r), v);
            }
        }
    }

    private static void noRegister() {
        SpecLoadSched x = Fixtures.marked();
        for (int r : new int[] {-1, 8, -2, 9, 15, 16, MIN, MAX}) {
            due("register " + r, x.register(r), 0);
        }
    }

    private static void setWord() {
        for (int a = 0; a < 16; a++) {
            SpecLoadSched x = Fixtures.used();
            x.bar(5, 0);
            int[] want = Checks.stateOf(x);
            for (int v : new int[] {MIN, -1, 0, 1, MAX}) {
                want[8 + a] = v;
                due("word " + a + " to " + v, x.setWord(a, v), 0);
                CHECKS.sameState("word " + a + " to " + v, x, want);
            }
        }
    }

    private static void setBarredWord() {
        for (int a = 0; a < 16; a++) {
            SpecLoadSched x = Fixtures.used();
            x.bar(a, 1);
            int[] want = Checks.stateOf(x);
            want[8 + a] = -4;
            due("word " + a, x.setWord(a, -4), 0);
            CHECKS.sameState("word " + a, x, want);
        }
    }

    private static void setNoWord() {
        for (int a : new int[] {-1, 16, -2, 17, MIN, MAX}) {
            SpecLoadSched x = Fixtures.used();
            int[] want = Checks.stateOf(x);
            due("word " + a, x.setWord(a, 5), BAD_ARG);
            CHECKS.sameState("word " + a, x, want);
        }
    }

    private static void word() {
        SpecLoadSched x = Fixtures.marked();
        x.bar(5, 0);
        for (int a = 0; a < 16; a++) {
            due("word " + a, x.word(a), 200 + a);
            for (int v : new int[] {MIN, -1, 0, 1, MAX}) {
                x.setWord(a, v);
                due("word " + a, x.word(a), v);
            }
        }
    }

    private static void barredWord() {
        SpecLoadSched x = Fixtures.marked();
        for (int a = 0; a < 16; a++) {
            x.bar(a, 1);
        }
        for (int a = 0; a < 16; a++) {
            due("word " + a, x.word(a), 200 + a);
        }
    }

    private static void noWord() {
        SpecLoadSched x = Fixtures.marked();
        for (int a : new int[] {-1, 16, -2, 17, MIN, MAX}) {
            due("word " + a, x.word(a), 0);
        }
    }

    private static void bar() {
        for (int a = 0; a < 16; a++) {
            SpecLoadSched x = new SpecLoadSched();
            x.setRegister(1, a);
            x.load(2, 1, 0);
            due("open at first " + a, x.run(), 0);
            for (int on : NOT_ZERO) {
                x.bar(a, on);
                due("barred " + a + " with " + on, x.run(), 2);
                x.bar(a, on);
                due("barred twice " + a + " with " + on, x.run(), 2);
                x.bar(a, 0);
                due("opened " + a, x.run(), 0);
                x.bar(a, 0);
                due("opened twice " + a, x.run(), 0);
            }
        }
    }

    private static void barNone() {
        for (int a : new int[] {-1, 16, -2, 17, MIN, MAX}) {
            for (int on : new int[] {0, 1, -1}) {
                SpecLoadSched x = Fixtures.used();
                x.bar(0, 1);
                x.bar(14, 1);
                int[] want = Checks.stateOf(x);
                due("bar " + a + " " + on, x.bar(a, on), BAD_ARG);
                CHECKS.sameState("bar " + a + " " + on, x, want);
            }
        }
    }

    private static void barBefore() {
        for (int a = 0; a < 16; a++) {
            SpecLoadSched x = new SpecLoadSched();
            due("a new one opened " + a, x.bar(a, 0), 0);
            for (int on : NOT_ZERO) {
                due("open, barred " + a + " with " + on, x.bar(a, on), 0);
                due("barred, barred " + a + " with " + on, x.bar(a, on), 1);
                due("barred, opened " + a + " after " + on, x.bar(a, 0), 1);
                due("open, opened " + a + " after " + on, x.bar(a, 0), 0);
            }
        }
    }

    private static void runFallsThrough() {
        for (int size = 0; size <= CAPACITY; size++) {
            SpecLoadSched x = new SpecLoadSched();
            for (int i = 0; i < size; i++) {
                x.leave(i % 8);
            }
            due("run of " + size, x.run(), SpecLoadSched.FELL_THROUGH);
            due("second run of " + size, x.run(), 0);
        }
    }

    private static void runEndsAtANumber() {
        for (int at = 0; at < CAPACITY; at++) {
            for (int size = at + 1; size <= CAPACITY; size++) {
                SpecLoadSched leaving = withSize(at);
                leaving.leave(7);
                Fixtures.pad(leaving, size - at - 1);
                due("left at " + at + " of " + size, leaving.run(), 1 + 4 * at);
                SpecLoadSched loading = withSize(at);
                loading.load(1, 7, 0);
                Fixtures.pad(loading, size - at - 1);
                due("load at " + at + " of " + size, loading.run(), 2 + 4 * at);
                SpecLoadSched storing = withSize(at);
                storing.store(7, 0, 1);
                Fixtures.pad(storing, size - at - 1);
                due("store at " + at + " of " + size, storing.run(), 2 + 4 * at);
            }
        }
    }

    private static void lastOfNone() {
        SpecLoadSched x = new SpecLoadSched();
        due("new", x.last(), -1);
        x.leave(0);
        x.leave(8);
        x.setRegister(0, 1);
        x.setRegister(8, 1);
        x.setWord(15, 1);
        x.bar(15, 1);
        x.clear();
        due("no run among the calls", x.last(), -1);
        x.repeat(0);
        x.repeat(-1);
        x.repeat(MIN);
        due("repeats of none", x.last(), -1);
        x.repeat(1);
        due("a repeat of one", x.last(), 0);
    }

    private static void last() {
        SpecLoadSched x = Fixtures.marked();
        due("run of none", x.run(), 0);
        due("last of none", x.last(), 0);
        Fixtures.pad(x, CAPACITY - 1);
        x.load(1, 2, 0);
        due("before the next run", x.last(), 0);
        due("run with a fault", x.run(), 54);
        due("last with a fault", x.last(), 54);
        due("last asked again", x.last(), 54);
        x.setRegister(2, 0);
        due("repeat of one too few", x.repeat(0), 0);
        due("last after no run", x.last(), 54);
        due("repeat", x.repeat(1), 1);
        due("last of the repeat", x.last(), 0);
        x.clear();
        Fixtures.pad(x, CAPACITY - 1);
        x.leave(6);
        due("repeat that leaves", x.repeat(8), 1);
        due("last when left", x.last(), 53);
        x.clear();
        due("run when cleared", x.run(), 0);
        due("last when cleared", x.last(), 0);
    }

    /** A program that counts its runs in register 2. */
    private static SpecLoadSched counting() {
        SpecLoadSched x = new SpecLoadSched();
        x.setRegister(1, 1);
        x.add(2, 2, 1);
        return x;
    }

    private static void repeats(int asked, int done) {
        SpecLoadSched x = counting();
        due("repeat " + asked, x.repeat(asked), done);
        due("runs of repeat " + asked, x.register(2), done);
        due("last after repeat " + asked, x.last(), done == 0 ? -1 : 0);
        due("repeat " + asked + " again", x.repeat(asked), done);
        due("runs of both", x.register(2), 2 * done);
        due("empty program, repeat " + asked, new SpecLoadSched().repeat(asked), done);
    }

    private static void repeat() {
        for (int n = 0; n <= 8; n++) {
            repeats(n, n);
        }
    }

    private static void repeatBelow() {
        for (int n : new int[] {-1, -2, -8, -9, MIN + 1, MIN}) {
            repeats(n, 0);
        }
    }

    private static void repeatAbove() {
        for (int n : new int[] {9, 10, 16, 256, 65536, MAX - 1, MAX}) {
            repeats(n, 8);
        }
    }

    /** Run number `ending` loads the word at 15, which alone is not 0, and leaves. */
    private static SpecLoadSched leavingIn(int ending) {
        SpecLoadSched x = counting();
        x.setWord(15, 1);
        x.setRegister(4, 15 - ending);
        x.add(4, 4, 1);
        x.load(7, 4, 0);
        x.leave(7);
        return x;
    }

    /** Run number `ending` is the first whose load is at 16. */
    private static SpecLoadSched faultingIn(int ending) {
        SpecLoadSched x = counting();
        x.setRegister(4, 16 - ending);
        x.add(4, 4, 1);
        x.load(7, 4, 0);
        return x;
    }

    private static void repeatStops() {
        for (int ending = 1; ending <= 9; ending++) {
            for (int n = 0; n <= 9; n++) {
                stops(leavingIn(ending), "leave", ending, n, 1 + 4 * 3);
                stops(faultingIn(ending), "fault", ending, n, 2 + 4 * 2);
            }
        }
    }

    private static void stops(SpecLoadSched x, String how, int ending, int n, int answer) {
        int asked = n > 8 ? 8 : n;
        int done = asked < ending ? asked : ending;
        int last = asked == 0 ? -1 : 0;
        String what = how + " in run " + ending + ", repeat " + n;
        due(what, x.repeat(n), done);
        due(what + ", runs", x.register(2), done);
        due(what + ", last", x.last(), asked >= ending ? answer : last);
    }
}
