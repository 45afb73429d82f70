import java.util.function.Supplier;

/** Each sentence of the document's "Terms" that names a boundary has a test of its own here. */
public final class TermsBoundaryTest {
    private static final int BAD_ARG = -1;
    private static final int FULL = -2;
    private static final int CAPACITY = Fixtures.CAPACITY;
    private static final int MIN = Integer.MIN_VALUE;
    private static final int MAX = Integer.MAX_VALUE;
    private static final int[] INTS = {MIN, MIN + 1, -65536, -1, 0, 1, 65536, MAX - 1, MAX};
    private static final int[] NEAR_EDGES = {MIN, MIN + 1, -9, -8, -1, 0, 1, 7, 8, 9, 13, 14, 15,
        16, 17, MAX - 1, MAX};

    private static final Checks CHECKS = new Checks();

    public static void main(String[] args) {
        CHECKS.sentence("An object is used for at most 512 calls",
            TermsBoundaryTest::the512thCallStillHolds);
        machine();
        program();
        running();
        refusing();
        CHECKS.finish("TermsBoundaryTest");
    }

    private static void machine() {
        CHECKS.sentence("Registers 0 to 7 hold ints", TermsBoundaryTest::registersHoldInts);
        CHECKS.sentence("Memory words at addresses 0 to 15 hold ints",
            TermsBoundaryTest::wordsHoldInts);
        CHECKS.sentence("Arithmetic wraps as in Java: add", TermsBoundaryTest::sumsWrap);
        CHECKS.sentence("Arithmetic wraps as in Java: subtract",
            TermsBoundaryTest::differencesWrap);
        CHECKS.sentence("Each address is open or barred", TermsBoundaryTest::barsAreSingle);
    }

    private static void program() {
        CHECKS.sentence("At most 14 instructions", TermsBoundaryTest::fourteenAndNoMore);
        CHECKS.sentence("Numbered 0, 1, .. in the order in which they were added",
            TermsBoundaryTest::numberedInOrder);
        CHECKS.sentence("Load: x not 0 to 15 ends the run with a FAULT",
            TermsBoundaryTest::loadFaultsJustOutside);
        CHECKS.sentence("Store: x as for load, and the same FAULT",
            TermsBoundaryTest::storeFaultsJustOutside);
        CHECKS.sentence("Let x be register a + o (wrapping)",
            TermsBoundaryTest::wrappedAddressesFault);
        CHECKS.sentence("Address x is barred: load and store end the run with a FAULT",
            TermsBoundaryTest::barredAddressesFault);
        CHECKS.sentence("Leave: if register a is not 0, the run ends; else nothing happens",
            TermsBoundaryTest::leavesUnlessZero);
    }

    private static void running() {
        CHECKS.sentence("Each with the registers and words that the ones before it left",
            TermsBoundaryTest::eachSeesTheOnesBefore);
        CHECKS.sentence("Until it ends at one of them", TermsBoundaryTest::leavingEndsARun);
        CHECKS.sentence("Or after the last one", TermsBoundaryTest::fallsThroughAfterTheLast);
        CHECKS.sentence("A program without instructions falls through at once",
            TermsBoundaryTest::emptyProgramFallsThrough);
        CHECKS.sentence("An instruction at which a run ends by a fault changes nothing",
            TermsBoundaryTest::faultChangesNothing);
        CHECKS.sentence("None after it is executed", TermsBoundaryTest::noneAfterAFault);
        CHECKS.sentence("Registers and memory keep what a run leaves in them",
            TermsBoundaryTest::runsLeaveTheirTraces);
        CHECKS.sentence("The next run begins with that",
            TermsBoundaryTest::nextRunBeginsWithThem);
    }

    private static void refusing() {
        CHECKS.sentence("No call ever throws: instructions",
            TermsBoundaryTest::noInstructionThrows);
        CHECKS.sentence("No call ever throws: the other calls",
            TermsBoundaryTest::noOtherCallThrows);
        CHECKS.sentence("A refused call answers the code named and changes nothing: BAD_ARG",
            TermsBoundaryTest::badInstructionsChangeNothing);
        CHECKS.sentence("A refused call answers the code named and changes nothing: FULL",
            TermsBoundaryTest::instructionsTooManyChangeNothing);
        CHECKS.sentence("A refused call answers the code named and changes nothing: others",
            TermsBoundaryTest::otherRefusedCallsChangeNothing);
    }

    private static void due(String what, int got, int want) {
        CHECKS.due(what, got, want);
    }

    private static void the512thCallStillHolds() {
        SpecLoadSched runs = new SpecLoadSched();
        runs.setRegister(1, 1);
        runs.add(2, 2, 1);
        for (int call = 3; call <= 510; call++) {
            due("run as call " + call, runs.run(), 0);
        }
        due("last as call 511", runs.last(), 0);
        due("register as call 512", runs.register(2), 508);

        SpecLoadSched fills = new SpecLoadSched();
        for (int call = 1; call <= 510; call += 15) {
            for (int i = 0; i < 14; i++) {
                due("leave from call " + call, fills.leave(0), i);
            }
            fills.clear();
        }
        due("leave as call 511", fills.leave(0), 0);
        due("run as call 512", fills.run(), 0);
    }

    private static void registersHoldInts() {
        for (int r = 0; r < 8; r++) {
            for (int v : INTS) {
                SpecLoadSched x = Fixtures.marked();
                int[] want = Checks.stateOf(x);
                want[r] = v;
                x.setRegister(r, v);
                CHECKS.sameState("register " + r + " with " + v, x, want);
            }
        }
    }

    private static void wordsHoldInts() {
        for (int a = 0; a < 16; a++) {
            for (int v : INTS) {
                SpecLoadSched x = Fixtures.marked();
                int[] want = Checks.stateOf(x);
                want[8 + a] = v;
                x.setWord(a, v);
                CHECKS.sameState("word " + a + " with " + v, x, want);
            }
        }
    }

    private static int resultOf(Kind kind, int a, int b) {
        SpecLoadSched x = new SpecLoadSched();
        x.setRegister(1, a);
        x.setRegister(2, b);
        kind.addTo(x, 3, 1, 2);
        due(kind.text(3, 1, 2) + " of " + a + " and " + b + ", run", x.run(), 0);
        return x.register(3);
    }

    private static void sumsWrap() {
        int[][] sums = {{MAX, 0, MAX}, {MAX, 1, MIN}, {1, MAX, MIN}, {MAX, 2, MIN + 1},
            {MAX - 1, 1, MAX}, {MAX, MAX, -2}, {MIN, 0, MIN}, {MIN, -1, MAX}, {-1, MIN, MAX},
            {MIN + 1, -1, MIN}, {MIN, MIN, 0}, {MIN, MAX, -1}};
        for (int[] sum : sums) {
            due(sum[0] + " + " + sum[1], resultOf(Kind.ADD, sum[0], sum[1]), sum[2]);
        }
    }

    private static void differencesWrap() {
        int[][] differences = {{MIN, 0, MIN}, {MIN, 1, MAX}, {MIN + 1, 1, MIN}, {MIN, 2, MAX - 1},
            {MAX, 0, MAX}, {MAX, -1, MIN}, {MAX - 1, -1, MAX}, {0, MAX, MIN + 1}, {-1, MAX, MIN},
            {-2, MAX, MAX}, {-1, MIN, MAX}, {0, MIN, MIN}, {MIN, MAX, 1}, {MAX, MIN, -1},
            {MIN, MIN, 0}, {MAX, MAX, 0}};
        for (int[] d : differences) {
            due(d[0] + " - " + d[1], resultOf(Kind.SUBTRACT, d[0], d[1]), d[2]);
        }
    }

    private static void barsAreSingle() {
        for (int barred = 0; barred < 16; barred++) {
            SpecLoadSched x = new SpecLoadSched();
            x.load(2, 1, 0);
            x.bar(barred, 1);
            for (int a = 0; a < 16; a++) {
                x.setRegister(1, a);
                due("barred " + barred + ", load at " + a, x.run(), a == barred ? 2 : 0);
            }
            x.bar(barred, 0);
            x.setRegister(1, barred);
            due("opened " + barred + ", load there", x.run(), 0);
        }
    }

    private static void fourteenAndNoMore() {
        for (Kind kind : Kind.ALL) {
            int[] operands = kind.with(0, 7);
            SpecLoadSched x = new SpecLoadSched();
            for (int i = 0; i < CAPACITY; i++) {
                due(kind.text(operands) + " as number " + i, kind.addTo(x, operands), i);
                due("size after " + kind.text(operands) + " as number " + i, x.size(), i + 1);
            }
            due("a fifteenth, " + kind.text(operands), kind.addTo(x, operands), FULL);
            due("a sixteenth, " + kind.text(operands), kind.addTo(x, operands), FULL);
            due("size after them", x.size(), CAPACITY);
        }
    }

    private static void numberedInOrder() {
        SpecLoadSched x = new SpecLoadSched();
        for (int i = 0; i < CAPACITY; i++) {
            Kind kind = Kind.ALL[i % Kind.ALL.length];
            due(kind.text() + " after " + i, kind.addTo(x, kind.with(0, 0)), i);
            kind.addTo(x, kind.with(0, 8));
            kind.addTo(x, kind.with(0, -1));
            due("size after a refused one", x.size(), i + 1);
        }
        SpecLoadSched y = new SpecLoadSched();
        y.constant(1, 5);
        y.add(2, 1, 1);
        y.constant(1, 9);
        y.subtract(3, 1, 2);
        due("run in order", y.run(), 0);
        due("second before third", y.register(2), 10);
        due("fourth after third", y.register(3), -1);
    }

    /** Calls with every offset and each base that takes it to an address from -2 to 17. */
    private static void loadFaultsJustOutside() {
        for (int o = -8; o <= 15; o++) {
            for (int a = -2; a <= 17; a++) {
                SpecLoadSched x = Fixtures.marked();
                x.bar(5, 0);
                x.setRegister(1, a - o);
                int[] want = Checks.stateOf(x);
                boolean reaches = a >= 0 && a <= 15;
                want[3] = reaches ? 200 + a : want[3];
                want[Checks.STATE_SIZE] = 1;
                want[Checks.STATE_LAST] = reaches ? 0 : 2;
                x.load(3, 1, o);
                String what = "load at " + (a - o) + " + " + o;
                due(what, x.run(), reaches ? 0 : 2);
                CHECKS.sameState(what, x, want);
            }
        }
    }

    private static void storeFaultsJustOutside() {
        for (int o = -8; o <= 15; o++) {
            for (int a = -2; a <= 17; a++) {
                SpecLoadSched x = Fixtures.marked();
                x.bar(5, 0);
                x.setRegister(1, a - o);
                int[] want = Checks.stateOf(x);
                boolean reaches = a >= 0 && a <= 15;
                if (reaches) {
                    want[8 + a] = 103;
                }
                want[Checks.STATE_SIZE] = 1;
                want[Checks.STATE_LAST] = reaches ? 0 : 2;
                x.store(1, o, 3);
                String what = "store at " + (a - o) + " + " + o;
                due(what, x.run(), reaches ? 0 : 2);
                CHECKS.sameState(what, x, want);
            }
        }
    }

    /** No sum of an int and an offset wraps into 0 to 15, so each of these is a fault. */
    private static void wrappedAddressesFault() {
        for (int o = -8; o <= 15; o++) {
            for (int base : new int[] {MIN, MIN + 7, MIN + 8, MIN + 15, MAX - 15, MAX - 14, MAX}) {
                SpecLoadSched loads = new SpecLoadSched();
                loads.setRegister(1, base);
                loads.load(2, 1, o);
                due("load at " + base + " + " + o, loads.run(), 2);
                SpecLoadSched stores = new SpecLoadSched();
                stores.setRegister(1, base);
                stores.store(1, o, 2);
                due("store at " + base + " + " + o, stores.run(), 2);
            }
        }
        SpecLoadSched x = Fixtures.marked();
        x.setRegister(1, MAX);
        x.add(2, 1, 1);
        x.load(3, 2, 2);
        x.store(2, 15, 0);
        due("at a base that has wrapped", x.run(), 0);
        due("load at -2 + 2", x.register(3), 200);
        due("store at -2 + 15", x.word(13), 100);
    }

    private static void barredAddressesFault() {
        for (int a = 0; a < 16; a++) {
            for (Kind kind : new Kind[] {Kind.LOAD, Kind.STORE}) {
                SpecLoadSched x = Fixtures.marked();
                x.bar(5, 0);
                x.bar(a, 1);
                x.setRegister(0, a);
                kind.addTo(x, kind.with(0, 0));
                int[] want = Checks.stateOf(x);
                want[Checks.STATE_LAST] = 2;
                due(kind.text() + " at the barred " + a, x.run(), 2);
                CHECKS.sameState(kind.text() + " at the barred " + a, x, want);
            }
        }
    }

    private static void leavesUnlessZero() {
        for (int r = 0; r < 8; r++) {
            for (int v : INTS) {
                SpecLoadSched x = Fixtures.marked();
                x.setRegister(r, v);
                x.leave(r);
                int[] want = Checks.stateOf(x);
                want[Checks.STATE_LAST] = v == 0 ? 0 : 1;
                due("leave " + r + " with " + v, x.run(), v == 0 ? 0 : 1);
                CHECKS.sameState("leave " + r + " with " + v, x, want);
            }
        }
    }

    private static void eachSeesTheOnesBefore() {
        SpecLoadSched x = new SpecLoadSched();
        x.constant(1, 15);
        x.store(1, 0, 1);
        x.load(2, 1, 0);
        x.add(2, 2, 2);
        x.subtract(2, 2, 1);
        x.store(2, 0, 0);
        x.load(1, 1, 0);
        x.leave(1);
        x.constant(1, -1);
        x.leave(1);
        due("run", x.run(), 1 + 4 * 9);
        due("sum less itself", x.register(2), 15);
        due("word stored twice", x.word(15), 0);
        due("register at which it left", x.register(1), -1);
    }

    private static void leavingEndsARun() {
        for (int at = 0; at < CAPACITY; at++) {
            SpecLoadSched x = Fixtures.marked();
            Fixtures.pad(x, at);
            x.leave(6);
            for (int i = at + 1; i < CAPACITY; i++) {
                x.constant(2, -2);
            }
            int[] want = Checks.stateOf(x);
            want[Checks.STATE_LAST] = 1 + 4 * at;
            due("leaves at " + at, x.run(), 1 + 4 * at);
            CHECKS.sameState("left at " + at, x, want);
        }
    }

    private static void fallsThroughAfterTheLast() {
        for (int size = 1; size <= CAPACITY; size++) {
            SpecLoadSched x = Fixtures.marked();
            Fixtures.pad(x, size - 1);
            x.constant(2, -2);
            int[] want = Checks.stateOf(x);
            want[2] = -2;
            want[Checks.STATE_LAST] = 0;
            due("run of " + size, x.run(), 0);
            CHECKS.sameState("the last of " + size, x, want);
        }
    }

    private static void emptyProgramFallsThrough() {
        SpecLoadSched cleared = Fixtures.traced();
        cleared.clear();
        SpecLoadSched barred = Fixtures.marked();
        for (int a = 0; a < 16; a++) {
            barred.bar(a, 1);
        }
        SpecLoadSched refused = new SpecLoadSched();
        for (Kind kind : Kind.ALL) {
            kind.addTo(refused, kind.with(0, 8));
        }
        SpecLoadSched[] empties = {new SpecLoadSched(), cleared, barred, refused};
        for (int i = 0; i < empties.length; i++) {
            int[] want = Checks.stateOf(empties[i]);
            want[Checks.STATE_LAST] = 0;
            due("empty program " + i, empties[i].run(), 0);
            CHECKS.sameState("empty program " + i, empties[i], want);
        }
        due("empty program repeated", new SpecLoadSched().repeat(8), 8);
    }

    /** 0 and 1 load, 2 and 3 store; 0 and 2 at the barred address, 1 and 3 just outside. */
    private static void addFault(SpecLoadSched x, int fault) {
        x.setRegister(1, fault % 2 == 0 ? 5 : 16);
        if (fault < 2) {
            x.load(3, 1, 0);
        } else {
            x.store(1, 0, 3);
        }
    }

    private static void faultChangesNothing() {
        for (int fault = 0; fault < 4; fault++) {
            for (int at = 0; at < CAPACITY; at++) {
                SpecLoadSched x = Fixtures.marked();
                Fixtures.pad(x, at);
                addFault(x, fault);
                int[] want = Checks.stateOf(x);
                want[Checks.STATE_LAST] = 2 + 4 * at;
                due("fault " + fault + " at " + at, x.run(), 2 + 4 * at);
                CHECKS.sameState("fault " + fault + " at " + at, x, want);
            }
        }
        SpecLoadSched own = Fixtures.marked();
        own.setRegister(3, 5);
        own.load(3, 3, 0);
        due("load into its own address register", own.run(), 2);
        due("that register", own.register(3), 5);
    }

    private static void noneAfterAFault() {
        for (int fault = 0; fault < 4; fault++) {
            for (int at = 0; at < CAPACITY - 1; at++) {
                for (Kind after : Kind.ALL) {
                    SpecLoadSched x = Fixtures.marked();
                    x.setRegister(0, 6);
                    Fixtures.pad(x, at);
                    addFault(x, fault);
                    after.addTo(x, after.with(0, 0));
                    int[] want = Checks.stateOf(x);
                    want[Checks.STATE_LAST] = 2 + 4 * at;
                    String what = after.text() + " after fault " + fault + " at " + at;
                    due(what, x.run(), 2 + 4 * at);
                    CHECKS.sameState(what, x, want);
                }
            }
        }
    }

    private static void runsLeaveTheirTraces() {
        for (int ending = 0; ending < 3; ending++) {
            SpecLoadSched x = Fixtures.marked();
            x.setRegister(1, 15);
            x.constant(2, MIN);
            x.store(1, 0, 2);
            addEnding(x, ending);
            int[] want = Checks.stateOf(x);
            want[2] = MIN;
            want[8 + 15] = MIN;
            want[Checks.STATE_LAST] = ending == 0 ? 0 : ending + 4 * 2;
            due("run with ending " + ending, x.run(), want[Checks.STATE_LAST]);
            CHECKS.sameState("after ending " + ending, x, want);
            x.clear();
            want[Checks.STATE_SIZE] = 0;
            CHECKS.sameState("cleared after ending " + ending, x, want);
        }
    }

    /** 0 falls through, 1 leaves, 2 faults. */
    private static void addEnding(SpecLoadSched x, int ending) {
        if (ending == 1) {
            x.leave(7);
        } else if (ending == 2) {
            x.load(7, 7, 0);
        }
    }

    private static void nextRunBeginsWithThem() {
        for (int ending = 0; ending < 3; ending++) {
            SpecLoadSched x = Fixtures.marked();
            x.setRegister(0, 0);
            x.setRegister(1, 1);
            x.setRegister(2, 0);
            x.setWord(15, 0);
            x.add(2, 2, 1);
            x.load(3, 0, 15);
            x.subtract(3, 3, 1);
            x.store(0, 15, 3);
            addEnding(x, ending);
            for (int run = 1; run <= 3; run++) {
                String what = "ending " + ending + ", run " + run;
                due(what, x.run(), ending == 0 ? 0 : ending + 4 * 4);
                due(what + ", register", x.register(2), run);
                due(what + ", word", x.word(15), -run);
            }
        }
    }

    private static SpecLoadSched allBarred() {
        SpecLoadSched x = Fixtures.marked();
        for (int a = 0; a < 16; a++) {
            x.bar(a, 1);
        }
        return x;
    }

    private static SpecLoadSched atTheEdges() {
        SpecLoadSched x = new SpecLoadSched();
        int[] values = {MIN, MIN + 8, -15, -1, 16, 23, MAX - 15, MAX};
        for (int r = 0; r < 8; r++) {
            x.setRegister(r, values[r]);
        }
        return x;
    }

    private static void noInstructionThrows() {
        triesInstructions(SpecLoadSched::new);
        triesInstructions(TermsBoundaryTest::atTheEdges);
        triesInstructions(TermsBoundaryTest::allBarred);
        triesInstructions(Fixtures::used);
        triesInstructions(Fixtures::traced);
    }

    private static void triesInstructions(Supplier<SpecLoadSched> maker) {
        for (int p : NEAR_EDGES) {
            for (int q : NEAR_EDGES) {
                for (int r : NEAR_EDGES) {
                    for (Kind kind : Kind.ALL) {
                        triesInstruction(maker.get(), kind, p, q, r);
                    }
                }
            }
        }
    }

    private static void triesInstruction(SpecLoadSched x, Kind kind, int... operands) {
        int size = x.size();
        int added = size == CAPACITY ? FULL : size;
        int want = kind.isGood(operands) ? added : BAD_ARG;
        due(kind.text(operands) + " with " + size, kind.addTo(x, operands), want);
        int answer = x.run();
        due("last after " + kind.text(operands), x.last(), answer);
    }

    private static void noOtherCallThrows() {
        triesOthers(SpecLoadSched::new);
        triesOthers(TermsBoundaryTest::atTheEdges);
        triesOthers(TermsBoundaryTest::allBarred);
        triesOthers(Fixtures::used);
        triesOthers(Fixtures::traced);
    }

    private static void triesOthers(Supplier<SpecLoadSched> maker) {
        for (int p : NEAR_EDGES) {
            for (int q : NEAR_EDGES) {
                SpecLoadSched x = maker.get();
                boolean isRegister = p >= 0 && p <= 7;
                boolean isAddress = p >= 0 && p <= 15;
                due("setRegister " + p, x.setRegister(p, q), isRegister ? 0 : BAD_ARG);
                due("register " + p, x.register(p), isRegister ? q : 0);
                due("setWord " + p, x.setWord(p, q), isAddress ? 0 : BAD_ARG);
                due("word " + p, x.word(p), isAddress ? q : 0);
                int bar = x.bar(p, q);
                CHECKS.holds("bar " + p, isAddress ? bar == 0 || bar == 1 : bar == BAD_ARG);
                int done = x.repeat(p);
                CHECKS.holds("repeat " + p, done >= 0 && done <= 8);
                int answer = x.run();
                due("last", x.last(), answer);
                x.clear();
                due("size", x.size(), 0);
            }
        }
    }

    private interface Call {
        int on(SpecLoadSched x);
    }

    /** Compares with an object on which the refused call was not made, before and after runs. */
    private static void isRefused(String what, Call call, int code,
            Supplier<SpecLoadSched> maker) {
        SpecLoadSched x = maker.get();
        SpecLoadSched spared = maker.get();
        due(what, call.on(x), code);
        CHECKS.sameState(what, x, Checks.stateOf(spared));
        due(what + ", the run after it", x.run(), spared.run());
        CHECKS.sameState(what + ", the run after it", x, Checks.stateOf(spared));
        due(what + ", the next instruction", x.constant(0, 1), spared.constant(0, 1));
    }

    private static void badInstructionsChangeNothing() {
        for (Kind kind : Kind.ALL) {
            for (int operand = 0; operand < kind.operands(); operand++) {
                for (int value : kind.beyond(operand)) {
                    int[] operands = kind.with(operand, value);
                    Call call = x -> kind.addTo(x, operands);
                    isRefused(kind.text(operands), call, BAD_ARG, SpecLoadSched::new);
                    isRefused(kind.text(operands), call, BAD_ARG, Fixtures::used);
                    isRefused(kind.text(operands), call, BAD_ARG, Fixtures::traced);
                }
            }
        }
    }

    private static void instructionsTooManyChangeNothing() {
        due("run of the traced program", Fixtures.traced().run(), Fixtures.TRACED_ANSWER);
        for (Kind kind : Kind.ALL) {
            for (int operand = 0; operand < kind.operands(); operand++) {
                for (int value : kind.within(operand)) {
                    int[] operands = kind.with(operand, value);
                    Call call = x -> kind.addTo(x, operands);
                    isRefused("full, " + kind.text(operands), call, FULL, Fixtures::traced);
                    isRefused("full, " + kind.text(operands), call, FULL, Fixtures::full);
                }
            }
        }
    }

    private static void otherRefusedCallsChangeNothing() {
        for (int r : new int[] {-1, 8, MIN, MAX}) {
            isRefused("setRegister " + r, x -> x.setRegister(r, -3), BAD_ARG, Fixtures::traced);
            isRefused("register " + r, x -> x.register(r), 0, Fixtures::traced);
        }
        for (int a : new int[] {-1, 16, MIN, MAX}) {
            isRefused("setWord " + a, x -> x.setWord(a, -3), BAD_ARG, Fixtures::traced);
            isRefused("word " + a, x -> x.word(a), 0, Fixtures::traced);
            isRefused("bar " + a, x -> x.bar(a, 1), BAD_ARG, Fixtures::traced);
            isRefused("open " + a, x -> x.bar(a, 0), BAD_ARG, Fixtures::traced);
        }
    }
}
