import java.lang.reflect.Constructor;
import java.lang.reflect.Field;
import java.lang.reflect.Method;
import java.lang.reflect.Modifier;
import java.util.Set;
import java.util.TreeSet;

/** The class shows the document's face and nothing beside it. */
public final class FaceTest {
    private static final Checks CHECKS = new Checks();

    public static void main(String[] args) {
        constantsHaveTheirValues();
        constantsAreKnownWhenCompiled();
        membersAreTheDocuments();
        nothingIsInherited();
        CHECKS.finish("FaceTest");
    }

    private static void constantsHaveTheirValues() {
        CHECKS.due("BAD_ARG", SpecLoadSched.BAD_ARG, -1);
        CHECKS.due("FULL", SpecLoadSched.FULL, -2);
        CHECKS.due("FELL_THROUGH", SpecLoadSched.FELL_THROUGH, 0);
        CHECKS.due("LEFT", SpecLoadSched.LEFT, 1);
        CHECKS.due("FAULTED", SpecLoadSched.FAULTED, 2);
    }

    /** The document gives them values, so a user may write them as labels of a switch. */
    private static void constantsAreKnownWhenCompiled() {
        for (int code = -2; code <= 2; code++) {
            int label = switch (code) {
                case SpecLoadSched.FULL -> -2;
                case SpecLoadSched.BAD_ARG -> -1;
                case SpecLoadSched.FELL_THROUGH -> 0;
                case SpecLoadSched.LEFT -> 1;
                case SpecLoadSched.FAULTED -> 2;
                default -> 99;
            };
            CHECKS.due("label of " + code, label, code);
        }
    }

    private static void membersAreTheDocuments() {
        Set<String> want = new TreeSet<>(Set.of(
            "public static final int SpecLoadSched.BAD_ARG",
            "public static final int SpecLoadSched.FULL",
            "public static final int SpecLoadSched.FELL_THROUGH",
            "public static final int SpecLoadSched.LEFT",
            "public static final int SpecLoadSched.FAULTED",
            "public SpecLoadSched()",
            "public int SpecLoadSched.constant(int,int)",
            "public int SpecLoadSched.add(int,int,int)",
            "public int SpecLoadSched.subtract(int,int,int)",
            "public int SpecLoadSched.load(int,int,int)",
            "public int SpecLoadSched.store(int,int,int)",
            "public int SpecLoadSched.leave(int)",
            "public int SpecLoadSched.size()",
            "public void SpecLoadSched.clear()",
            "public int SpecLoadSched.setRegister(int,int)",
            "public int SpecLoadSched.register(int)",
            "public int SpecLoadSched.setWord(int,int)",
            "public int SpecLoadSched.word(int)",
            "public int SpecLoadSched.bar(int,int)",
            "public int SpecLoadSched.run()",
            "public int SpecLoadSched.last()",
            "public int SpecLoadSched.repeat(int)"));
        Set<String> got = new TreeSet<>();
        for (Field f : SpecLoadSched.class.getDeclaredFields()) {
            if (!Modifier.isPrivate(f.getModifiers())) {
                got.add(f.toString());
            }
        }
        for (Constructor<?> c : SpecLoadSched.class.getDeclaredConstructors()) {
            got.add(c.toString());
        }
        for (Method m : SpecLoadSched.class.getDeclaredMethods()) {
            if (!Modifier.isPrivate(m.getModifiers())) {
                got.add(m.toString());
            }
        }
        CHECKS.holds("the face is " + want + ", it shows " + got, want.equals(got));
        CHECKS.due("modifiers of the class", SpecLoadSched.class.getModifiers(),
            Modifier.PUBLIC | Modifier.FINAL);
    }

    private static void nothingIsInherited() {
        CHECKS.holds("it extends Object", SpecLoadSched.class.getSuperclass() == Object.class);
        CHECKS.due("interfaces", SpecLoadSched.class.getInterfaces().length, 0);
        CHECKS.due("type parameters", SpecLoadSched.class.getTypeParameters().length, 0);
        CHECKS.due("member classes", SpecLoadSched.class.getDeclaredClasses().length, 0);
        CHECKS.due("annotations", SpecLoadSched.class.getAnnotations().length, 0);
        CHECKS.holds("it has no package", SpecLoadSched.class.getPackageName().isEmpty());
    }
}
