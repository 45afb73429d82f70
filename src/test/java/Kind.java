/** One kind of instruction: the call that adds it and the range of each of its operands. */
final class Kind {
    interface Adder {
        int addTo(SpecLoadSched x, int[] operands);
    }

    private static final int MIN = Integer.MIN_VALUE;
    private static final int MAX = Integer.MAX_VALUE;
    private static final int[] REGISTER = {0, 7};
    private static final int[] OFFSET = {-8, 15};
    private static final int[] ANY = {MIN, MAX};

    static final Kind CONSTANT = new Kind("constant",
        (x, p) -> x.constant(p[0], p[1]), REGISTER, ANY);
    static final Kind ADD = new Kind("add",
        (x, p) -> x.add(p[0], p[1], p[2]), REGISTER, REGISTER, REGISTER);
    static final Kind SUBTRACT = new Kind("subtract",
        (x, p) -> x.subtract(p[0], p[1], p[2]), REGISTER, REGISTER, REGISTER);
    static final Kind LOAD = new Kind("load",
        (x, p) -> x.load(p[0], p[1], p[2]), REGISTER, REGISTER, OFFSET);
    static final Kind STORE = new Kind("store",
        (x, p) -> x.store(p[0], p[1], p[2]), REGISTER, OFFSET, REGISTER);
    static final Kind LEAVE = new Kind("leave",
        (x, p) -> x.leave(p[0]), REGISTER);
    static final Kind[] ALL = {CONSTANT, ADD, SUBTRACT, LOAD, STORE, LEAVE};

    private final String name;
    private final Adder adder;
    private final int[][] ranges;

    private Kind(String name, Adder adder, int[]... ranges) {
        this.name = name;
        this.adder = adder;
        this.ranges = ranges;
    }

    int operands() {
        return ranges.length;
    }

    int least(int operand) {
        return ranges[operand][0];
    }

    int greatest(int operand) {
        return ranges[operand][1];
    }

    int addTo(SpecLoadSched x, int... operands) {
        return adder.addTo(x, operands);
    }

    boolean isGood(int... operands) {
        for (int i = 0; i < ranges.length; i++) {
            if (operands[i] < least(i) || operands[i] > greatest(i)) {
                return false;
            }
        }
        return true;
    }

    /** Operands that are all in their range, but for the one that is given. */
    int[] with(int operand, int value) {
        int[] operands = new int[ranges.length];
        operands[operand] = value;
        return operands;
    }

    /** What the document refuses nearest to the range of this operand and farthest from it. */
    int[] beyond(int operand) {
        if (ranges[operand] == ANY) {
            return new int[0];
        }
        return new int[] {least(operand) - 1, greatest(operand) + 1, MIN, MAX};
    }

    /** All of the range, or its ends and its middle if it is that of all ints. */
    int[] within(int operand) {
        if (ranges[operand] == ANY) {
            return new int[] {MIN, MIN + 1, -1, 0, 1, MAX - 1, MAX};
        }
        int[] values = new int[greatest(operand) - least(operand) + 1];
        for (int i = 0; i < values.length; i++) {
            values[i] = least(operand) + i;
        }
        return values;
    }

    String text(int... operands) {
        StringBuilder text = new StringBuilder(name);
        for (int operand : operands) {
            text.append(' ').append(operand);
        }
        return text.toString();
    }
}
