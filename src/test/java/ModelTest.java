import java.util.ArrayList;
import java.util.HashSet;
import java.util.List;
import java.util.Set;
import java.util.function.IntSupplier;

/**
 * Mixed calls against a second machine that holds its program as a list of closures, so that
 * a slip in one of the two is not likely to be in the other. The calls are the same each time.
 */
public final class ModelTest {
    private static final int OBJECTS = 4000;
    // The document frees what an object answers after its 512th call.
    private static final int CALLS = 512;
    private static final int GOES_ON = 0;

    private static final Checks CHECKS = new Checks();
    private static final Set<Integer> SEEN = new HashSet<>();

    private static long seed = 1;

    private final int[] registers = new int[8];
    private final int[] words = new int[16];
    private final Set<Integer> barred = new HashSet<>();
    private final List<IntSupplier> program = new ArrayList<>();
    private int last = -1;

    public static void main(String[] args) {
        for (int i = 0; i < OBJECTS; i++) {
            compareOne(i);
        }
        for (int at = 0; at < 14; at++) {
            CHECKS.holds("some run left at " + at, SEEN.contains(1 + 4 * at));
            CHECKS.holds("some run faulted at " + at, SEEN.contains(2 + 4 * at));
        }
        CHECKS.holds("some run fell through", SEEN.contains(0));
        CHECKS.finish("ModelTest");
    }

    private static int below(int bound) {
        seed = seed * 6364136223846793005L + 1442695040888963407L;
        return (int) ((seed >>> 33) % bound);
    }

    private static int index(int bound) {
        return below(40) == 0 ? below(2) * (bound + 1) - 1 : below(bound);
    }

    private static int offset() {
        return below(3) == 0 ? below(28) - 10 : below(4);
    }

    private static int value() {
        int[] edges = {0, 0, Integer.MAX_VALUE, Integer.MIN_VALUE, -1, 16, 15};
        return below(4) == 0 ? edges[below(edges.length)] : below(14);
    }

    private static void compareOne(int object) {
        SpecLoadSched x = new SpecLoadSched();
        ModelTest m = new ModelTest();
        int leaves = below(4);
        for (int call = 0; call < CALLS; call++) {
            m.compareCall(x, "object " + object + ", call " + call, leaves);
        }
    }

    private void compareCall(SpecLoadSched x, String where, int leaves) {
        int kind = below(20);
        int p = index(8);
        int q = index(8);
        int r = index(8);
        int o = offset();
        int a = index(16);
        int v = value();
        boolean clears = below(12) == 0;
        boolean leavesNow = below(4) < leaves;
        switch (kind) {
            case 0 -> CHECKS.due(where + " constant", x.constant(p, v),
                added(isIn(p, 0, 7), () -> set(p, v)));
            case 1 -> CHECKS.due(where + " add", x.add(p, q, r),
                added(isIn(p, 0, 7) && isIn(q, 0, 7) && isIn(r, 0, 7),
                    () -> set(p, registers[q] + registers[r])));
            case 2 -> CHECKS.due(where + " subtract", x.subtract(p, q, r),
                added(isIn(p, 0, 7) && isIn(q, 0, 7) && isIn(r, 0, 7),
                    () -> set(p, registers[q] - registers[r])));
            case 3, 4 -> CHECKS.due(where + " load", x.load(p, q, o),
                added(isIn(p, 0, 7) && isIn(q, 0, 7) && isIn(o, -8, 15),
                    () -> reaches(q, o) ? set(p, words[registers[q] + o]) : 2));
            case 5 -> CHECKS.due(where + " store", x.store(p, o, q),
                added(isIn(p, 0, 7) && isIn(q, 0, 7) && isIn(o, -8, 15),
                    () -> reaches(p, o) ? put(registers[p] + o, registers[q]) : 2));
            case 6 -> {
                if (leavesNow) {
                    CHECKS.due(where + " leave", x.leave(p),
                        added(isIn(p, 0, 7), () -> registers[p] == 0 ? GOES_ON : 1));
                }
            }
            case 7 -> CHECKS.due(where + " size", x.size(), program.size());
            case 8 -> {
                if (clears) {
                    x.clear();
                    program.clear();
                }
            }
            case 9, 10 -> CHECKS.due(where + " setRegister", x.setRegister(p, v),
                isIn(p, 0, 7) ? set(p, v) : -1);
            case 11 -> CHECKS.due(where + " register", x.register(p),
                isIn(p, 0, 7) ? registers[p] : 0);
            case 12 -> CHECKS.due(where + " setWord", x.setWord(a, v),
                isIn(a, 0, 15) ? put(a, v) : -1);
            case 13 -> CHECKS.due(where + " word", x.word(a), isIn(a, 0, 15) ? words[a] : 0);
            case 14 -> {
                int on = below(3) == 0 ? v : 0;
                CHECKS.due(where + " bar", x.bar(a, on), isIn(a, 0, 15) ? turn(a, on) : -1);
            }
            case 15, 16, 17 -> CHECKS.due(where + " run", x.run(), once());
            case 18 -> CHECKS.due(where + " last", x.last(), last);
            default -> CHECKS.due(where + " repeat", x.repeat(v), often(v));
        }
    }

    private static boolean isIn(int i, int least, int greatest) {
        return least <= i && i <= greatest;
    }

    private int added(boolean good, IntSupplier instruction) {
        if (!good) {
            return -1;
        }
        if (program.size() == 14) {
            return -2;
        }
        program.add(instruction);
        return program.size() - 1;
    }

    private int set(int d, int v) {
        registers[d] = v;
        return GOES_ON;
    }

    private int put(int a, int v) {
        words[a] = v;
        return GOES_ON;
    }

    private boolean reaches(int base, int o) {
        int a = registers[base] + o;
        return isIn(a, 0, 15) && !barred.contains(a);
    }

    private int turn(int a, int on) {
        boolean before = on != 0 ? !barred.add(a) : barred.remove(a);
        return before ? 1 : 0;
    }

    private int once() {
        last = 0;
        int number = 0;
        for (IntSupplier instruction : program) {
            int ending = instruction.getAsInt();
            if (ending != GOES_ON) {
                last = ending + 4 * number;
                break;
            }
            number++;
        }
        SEEN.add(last);
        return last;
    }

    private int often(int n) {
        int bound = Math.min(8, Math.max(0, n));
        for (int done = 0; done < bound; done++) {
            if (once() != 0) {
                return done + 1;
            }
        }
        return bound;
    }
}
