import java.lang.management.ManagementFactory;
import java.lang.reflect.Constructor;
import java.lang.reflect.Field;
import java.lang.reflect.Method;
import java.lang.reflect.Modifier;
import java.util.Arrays;
import java.util.Set;
import java.util.TreeSet;

/** The public face by reflection, and what a run of dear calls allocates. */
public final class FaceTest {
    private static final String[] FACE = {
        "about(int, int): int", "baseline(int, int): int", "check(int, int, int): boolean",
        "checkIn(int, int): int", "count(int): int", "difference(int, int, int, int): int",
        "drawing(int): int", "drop(int, int, int): boolean", "failAfter(int): boolean",
        "inBaseline(int, int, int): int", "look(int, int, int): int", "out(int, int): boolean",
        "person(int, int): boolean", "put(int, int, int, int): boolean",
        "ref(int, int, int, int, int): boolean", "reference(int, int, int, int): int",
        "release(int, int, int): boolean", "resize(int, int, int): boolean", "start(): int",
        "undo(int, int): boolean", "user(int, boolean, int): int", "why(): int",
        "withdraw(int, int, int): boolean",
    };
    private static final long MOST_BYTES = 200_000;

    public static void main(String[] args) {
        Checks.test("the face");
        classAndConstructor();
        methods();
        fields();
        Checks.test("the room");
        room();
        Checks.end();
    }

    private static void classAndConstructor() {
        int modifiers = DrawingVault.class.getModifiers();
        Checks.due("public and final", Modifier.isPublic(modifiers) && Modifier.isFinal(modifiers), true);
        Constructor<?>[] made = DrawingVault.class.getDeclaredConstructors();
        Checks.due("constructors", made.length, 1);
        Checks.due("its parameters", made[0].getParameterCount(), 0);
        Checks.due("public", Modifier.isPublic(made[0].getModifiers()), true);
    }

    private static void methods() {
        Set<String> face = new TreeSet<>();
        Set<String> names = new TreeSet<>();
        for (Method m : DrawingVault.class.getDeclaredMethods()) {
            if (Modifier.isPublic(m.getModifiers())) {
                face.add(signature(m));
                names.add(m.getName());
            }
        }
        Checks.due("the face is " + face, face.equals(new TreeSet<>(Arrays.asList(FACE))), true);
        for (Method m : DrawingVault.class.getDeclaredMethods()) {
            boolean open = Modifier.isPublic(m.getModifiers());
            Checks.due(m + " is public or private", open || Modifier.isPrivate(m.getModifiers()), true);
            Checks.due(m + " has a name of its own", open || !names.contains(m.getName()), true);
        }
        for (Class<?> inside : DrawingVault.class.getDeclaredClasses()) {
            for (Method m : inside.getDeclaredMethods()) {
                Checks.due(m + " has a name of its own", names.contains(m.getName()), false);
            }
        }
    }

    private static String signature(Method m) {
        String parameters = Arrays.toString(m.getParameterTypes());
        return m.getName() + "(" + parameters.substring(1, parameters.length() - 1) + "): " + m.getReturnType();
    }

    private static void fields() {
        for (Field f : DrawingVault.class.getDeclaredFields()) {
            boolean none = f.getName().equals("NONE");
            Checks.due(f + " is private, NONE public", none == Modifier.isPublic(f.getModifiers()), true);
            Checks.due(f + " is private, NONE public", none != Modifier.isPrivate(f.getModifiers()), true);
            Checks.due(f + ", static is final",
                !Modifier.isStatic(f.getModifiers()) || Modifier.isFinal(f.getModifiers()), true);
        }
    }

    /** Rows are used again: 512 calls that fill a vault stay far below what one room holds. */
    private static void room() {
        com.sun.management.ThreadMXBean threads =
            (com.sun.management.ThreadMXBean) ManagementFactory.getThreadMXBean();
        long thread = Thread.currentThread().getId();
        fill();
        long before = threads.getThreadAllocatedBytes(thread);
        fill();
        long taken = threads.getThreadAllocatedBytes(thread) - before;
        Checks.due("a run allocates " + taken + " bytes, too many", taken > MOST_BYTES, false);
    }

    private static void fill() {
        DrawingVault v = new DrawingVault();
        v.person(0, 7);
        for (int i = 0; i < 24; i++) {
            v.drawing(0);
        }
        for (int i = 0; i < 76; i++) {
            v.out(i % 24, 0);
            v.resize(i % 24, 0, 64);
            v.put(i % 24, 0, i % 64, i);
            v.checkIn(i % 24, 0);
            v.count(2);
        }
        for (int i = 0; i < 107; i++) {
            v.user(i % 24, true, i);
        }
    }
}
