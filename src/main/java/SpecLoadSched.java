public final class SpecLoadSched {
    public static final int BAD_ARG = -1;
    public static final int FULL = -2;
    public static final int FELL_THROUGH = 0;
    public static final int LEFT = 1;
    public static final int FAULTED = 2;

    private static final int REGISTERS = 8;
    private static final int WORDS = 16;
    private static final int CAPACITY = 14;
    private static final int MIN_OFFSET = -8;
    private static final int MAX_OFFSET = 15;
    private static final int MAX_REPEATS = 8;
    private static final int NO_RUN = -1;

    private static final int CONSTANT = 0;
    private static final int ADD = 1;
    private static final int SUBTRACT = 2;
    private static final int LOAD = 3;
    private static final int STORE = 4;
    private static final int LEAVE = 5;

    private final int[] registers = new int[REGISTERS];
    private final int[] words = new int[WORDS];
    private final boolean[] barred = new boolean[WORDS];

    // The operands stand in the order in which the document writes them. Those that name
    // registers are looked at before they are kept, so a run uses them as indexes unseen.
    private final int[] kinds = new int[CAPACITY];
    private final int[] firsts = new int[CAPACITY];
    private final int[] seconds = new int[CAPACITY];
    private final int[] thirds = new int[CAPACITY];
    private int count = 0;

    private int lastAnswer = NO_RUN;

    public SpecLoadSched() {
    }

    public int constant(int d, int v) {
        if (!isRegister(d)) {
            return BAD_ARG;
        }
        return append(CONSTANT, d, v, 0);
    }

    public int add(int d, int a, int b) {
        return appendArithmetic(ADD, d, a, b);
    }

    public int subtract(int d, int a, int b) {
        return appendArithmetic(SUBTRACT, d, a, b);
    }

    public int load(int d, int a, int o) {
        if (!isRegister(d) || !isRegister(a) || !isOffset(o)) {
            return BAD_ARG;
        }
        return append(LOAD, d, a, o);
    }

    public int store(int a, int o, int s) {
        if (!isRegister(a) || !isOffset(o) || !isRegister(s)) {
            return BAD_ARG;
        }
        return append(STORE, a, o, s);
    }

    public int leave(int a) {
        if (!isRegister(a)) {
            return BAD_ARG;
        }
        return append(LEAVE, a, 0, 0);
    }

    public int size() {
        return count;
    }

    public void clear() {
        count = 0;
    }

    public int setRegister(int r, int v) {
        if (!isRegister(r)) {
            return BAD_ARG;
        }
        registers[r] = v;
        return 0;
    }

    public int register(int r) {
        return isRegister(r) ? registers[r] : 0;
    }

    public int setWord(int x, int v) {
        if (!isAddress(x)) {
            return BAD_ARG;
        }
        words[x] = v;
        return 0;
    }

    public int word(int x) {
        return isAddress(x) ? words[x] : 0;
    }

    public int bar(int x, int on) {
        if (!isAddress(x)) {
            return BAD_ARG;
        }
        int before = barred[x] ? 1 : 0;
        barred[x] = on != 0;
        return before;
    }

    public int run() {
        int answer = FELL_THROUGH;
        for (int i = 0; i < count && answer == FELL_THROUGH; i++) {
            int ending = execute(i);
            if (ending != FELL_THROUGH) {
                answer = ending + 4 * i;
            }
        }
        lastAnswer = answer;
        return answer;
    }

    public int last() {
        return lastAnswer;
    }

    public int repeat(int n) {
        int wanted = n > MAX_REPEATS ? MAX_REPEATS : n;
        int done = 0;
        boolean goesOn = true;
        while (goesOn && done < wanted) {
            goesOn = run() == FELL_THROUGH;
            done++;
        }
        return done;
    }

    private static boolean isRegister(int r) {
        return r >= 0 && r < REGISTERS;
    }

    private static boolean isAddress(int x) {
        return x >= 0 && x < WORDS;
    }

    private static boolean isOffset(int o) {
        return o >= MIN_OFFSET && o <= MAX_OFFSET;
    }

    private boolean isOpen(int x) {
        return isAddress(x) && !barred[x];
    }

    private int appendArithmetic(int kind, int d, int a, int b) {
        if (!isRegister(d) || !isRegister(a) || !isRegister(b)) {
            return BAD_ARG;
        }
        return append(kind, d, a, b);
    }

    private int append(int kind, int first, int second, int third) {
        if (count >= CAPACITY) {
            return FULL;
        }
        int number = count;
        kinds[number] = kind;
        firsts[number] = first;
        seconds[number] = second;
        thirds[number] = third;
        count++;
        return number;
    }

    // Answers how the run ended at this instruction, FELL_THROUGH if it goes on after it:
    // so a run that no instruction ends has its answer without a case of its own.
    private int execute(int number) {
        int first = firsts[number];
        int second = seconds[number];
        int third = thirds[number];
        switch (kinds[number]) {
            case CONSTANT:
                registers[first] = second;
                return FELL_THROUGH;
            case ADD:
                registers[first] = registers[second] + registers[third];
                return FELL_THROUGH;
            case SUBTRACT:
                registers[first] = registers[second] - registers[third];
                return FELL_THROUGH;
            case LOAD:
                return executeLoad(first, second, third);
            case STORE:
                return executeStore(first, second, third);
            default:
                return registers[first] != 0 ? LEFT : FELL_THROUGH;
        }
    }

    private int executeLoad(int d, int a, int o) {
        int x = registers[a] + o;
        if (!isOpen(x)) {
            return FAULTED;
        }
        registers[d] = words[x];
        return FELL_THROUGH;
    }

    private int executeStore(int a, int o, int s) {
        int x = registers[a] + o;
        if (!isOpen(x)) {
            return FAULTED;
        }
        words[x] = registers[s];
        return FELL_THROUGH;
    }
}
